def zq_u : DecidableEq (Unit ⊕ List zi_I) := inferInstance
def zq_o : DecidableEq (Option Nat ⊕ (Unit ⊕ List zi_I)) := letI := zq_u; inferInstance
def zq_p : DecidableEq (zi_I ⊕ (Option Nat ⊕ (Unit ⊕ List zi_I))) := letI := zq_o; inferInstance
def zq_V : DecidableEq zi_V := letI := zq_p; inferInstance
def zq_f : DecidableEq (FieldType × List zi_I) := inferInstance
def zq_g : DecidableEq (Nat × List zi_V) := letI := zq_V; inferInstance
def zq_C : DecidableEq zi_C := letI := zq_f; letI := zq_g; inferInstance
def zq_W : DecidableEq zi_W := letI := zq_C; inferInstance
def zq_S : DecidableEq zi_S := letI := zq_V; letI := zq_W; inferInstance
def zq_R : DecidableEq (Option (Nat × zi_S)) := letI := zq_S; inferInstance
set_option maxRecDepth 100000 in
set_option maxHeartbeats 4000000 in
theorem zd_x : ∀ k, k < 64 → 36 ≤ k → zi_is1 (zi_run zi_mt 1000 zt_L_law (some [zi_tp, zi_tp, zi_tp, zi_tp, zi_tp]) 10 32 (zs_k k)) = true := by decide +kernel
set_option maxRecDepth 100000 in
set_option maxHeartbeats 4000000 in
theorem zA : zi_run zi_mt 100000 (zi_cut zt_L_law 18) none 10 0 zs_b = some (18, zs_0) := @of_decide_eq_true _ (zq_R _ _) (by decide +kernel)
set_option maxRecDepth 100000 in
set_option maxHeartbeats 4000000 in
theorem zB : ∀ L, L < 5 → zi_is1 (zi_run zi_mt 1000 zt_L_law (some (List.replicate L zi_tp)) 10 18 zs_0) = true := by decide +kernel
set_option maxRecDepth 100000 in
set_option maxHeartbeats 4000000 in
theorem zC : zi_run zi_mt 1000 (zi_cut zt_L_law 32) (some (List.replicate 5 zi_tp)) 10 18 zs_0 = some (32, zs_1) := @of_decide_eq_true _ (zq_R _ _) (by decide +kernel)
