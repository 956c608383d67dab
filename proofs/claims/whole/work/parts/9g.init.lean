/-! the constructors -/
def hMem (h : Hp) (x : Nat) : Hp := sI (sR (sR (nw (sR (nw (nw (sR (oA (sR (nw (sR (nw (nw (sR (nw h 100 4096 4096) 128 (x + 3) (some (x + 4))) 4 0 4) 100 32 32) 192 (x + 5) (some (x + 6))) 100 8 8) 193 (x + 5) (some (x + 7))) (fr (hA (sR (nw (sR (nw (nw (sR (nw h 100 4096 4096) 128 (x + 3) (some (x + 4))) 4 0 4) 100 32 32) 192 (x + 5) (some (x + 6))) 100 8 8) 193 (x + 5) (some (x + 7)))) (x + 6) 0 32 (fun _ => -1))) 129 (x + 3) (some (x + 5))) 5 0 4) 124 64 64) 256 (x + 8) (some (x + 9))) 124 64 64) 257 (x + 8) (some (x + 10))) 130 (x + 3) (some (x + 8))) 131 (x + 3) 512
theorem i_mem {F : Nat} {h : Hp} {x : Nat} (hF : 40000 ≤ F) (t : hT h = x + 4) (k : hK h (x + 3) = 3) : f_Memory_init F (x + 3) h = some (hMem h x) := by
  have e5 : hK (nw (sR (nw h 100 4096 4096) 128 (x + 3) (some (x + 4))) 4 0 4) (x + 5) = 4 := by rw [qK_nw, qT_sR, qT_nw, t, if_pos rfl]
  have cf : ∀ h2 : Hp, hT h2 = x + 6 → hK h2 (x + 5) = 4 → f_Cache_init F (x + 5) h2 = some (oA (sR (nw (sR (nw h2 100 32 32) 192 (x + 5) (some (x + 6))) 100 8 8) 193 (x + 5) (some (x + 7))) (fr (hA (sR (nw (sR (nw h2 100 32 32) 192 (x + 5) (some (x + 6))) 100 8 8) 193 (x + 5) (some (x + 7)))) (x + 6) 0 32 (fun _ => -1))) := fun h2 t2 k2 => by
    have n7 : hN (sR (nw (sR (nw h2 100 32 32) 192 (x + 5) (some (x + 6))) 100 8 8) 193 (x + 5) (some (x + 7))) (x + 6) = 32 := by
      rw [qN_sR, qN_nw, qT_sR, qT_nw, t2, if_neg (by omega), qN_sR, qN_nw, t2, if_pos rfl]
    have k7 : hK (sR (nw (sR (nw h2 100 32 32) 192 (x + 5) (some (x + 6))) 100 8 8) 193 (x + 5) (some (x + 7))) (x + 6) = 100 := by
      rw [qK_sR, qK_nw, qT_sR, qT_nw, t2, if_neg (by omega), qK_sR, qK_nw, t2, if_pos rfl]
    have fl := c_Arrays_fill (F := F) k7 (-1) (by rw [n7]; decide) (by rw [n7]; omega)
    rw [n7] at fl
    have r7 : hR (sR (nw (sR (nw h2 100 32 32) 192 (x + 5) (some (x + 6))) 100 8 8) 193 (x + 5) (some (x + 7))) 192 (x + 5) = some (x + 6) := by
      rw [qR_sR, if_neg (fun y => by omega), qR_nw, qT_sR, qT_nw, t2, if_neg (by omega), qR_sR, if_pos ⟨rfl, rfl⟩]
    rw [f_Cache_init, pw_e, t2, pw_e, gd_t (by rw [qK_nw, t2, if_neg (by omega)]; exact k2), pw_e, pw_e, qT_sR, qT_nw, t2, pw_e, gd_t (by rw [qK_nw, qT_sR, qT_nw, t2, if_neg (by omega), qK_sR, qK_nw, t2, if_neg (by omega)]; exact k2), pw_e, rq_k r7 k7, fl, clv_some]
  have pf : ∀ h2 : Hp, hT h2 = x + 9 → hK h2 (x + 8) = 5 → f_Pending_init F (x + 8) h2 = some (sR (nw (sR (nw h2 124 64 64) 256 (x + 8) (some (x + 9))) 124 64 64) 257 (x + 8) (some (x + 10))) := fun h2 t2 k2 => by
    rw [f_Pending_init, pw_e, t2, pw_e, gd_t (by rw [qK_nw, t2, if_neg (by omega)]; exact k2), pw_e, pw_e, qT_sR, qT_nw, t2, pw_e, gd_t (by rw [qK_nw, qT_sR, qT_nw, t2, if_neg (by omega), qK_sR, qK_nw, t2, if_neg (by omega)]; exact k2), pw_e]
  unfold hMem
  have c1 := cf (nw (sR (nw h 100 4096 4096) 128 (x + 3) (some (x + 4))) 4 0 4) (by rw [qT_nw, qT_sR, qT_nw, t]) e5
  have t8 : hT (oA (sR (nw (sR (nw (nw (sR (nw h 100 4096 4096) 128 (x + 3) (some (x + 4))) 4 0 4) 100 32 32) 192 (x + 5) (some (x + 6))) 100 8 8) 193 (x + 5) (some (x + 7))) (fr (hA (sR (nw (sR (nw (nw (sR (nw h 100 4096 4096) 128 (x + 3) (some (x + 4))) 4 0 4) 100 32 32) 192 (x + 5) (some (x + 6))) 100 8 8) 193 (x + 5) (some (x + 7)))) (x + 6) 0 32 (fun _ => -1))) = x + 8 := by
    simp only [qT_oA, qT_sR, qT_nw, t]
  have k8 : hK (oA (sR (nw (sR (nw (nw (sR (nw h 100 4096 4096) 128 (x + 3) (some (x + 4))) 4 0 4) 100 32 32) 192 (x + 5) (some (x + 6))) 100 8 8) 193 (x + 5) (some (x + 7))) (fr (hA (sR (nw (sR (nw (nw (sR (nw h 100 4096 4096) 128 (x + 3) (some (x + 4))) 4 0 4) 100 32 32) 192 (x + 5) (some (x + 6))) 100 8 8) 193 (x + 5) (some (x + 7)))) (x + 6) 0 32 (fun _ => -1))) (x + 3) = 3 := by
    simp only [qK_oA, qK_sR, qK_nw, qT_sR, qT_nw, t]
    rw [if_neg (by omega), if_neg (by omega), if_neg (by omega), if_neg (by omega)]
    exact k
  rw [f_Memory_init, pw_e, t, pw_e, gd_t (by rw [qK_nw, t, if_neg (by omega)]; exact k), pw_e, pw_e, qT_sR, qT_nw, t, pw_e, c1, clv_some]
  generalize oA (sR (nw (sR (nw (nw (sR (nw h 100 4096 4096) 128 (x + 3) (some (x + 4))) 4 0 4) 100 32 32) 192 (x + 5) (some (x + 6))) 100 8 8) 193 (x + 5) (some (x + 7))) (fr (hA (sR (nw (sR (nw (nw (sR (nw h 100 4096 4096) 128 (x + 3) (some (x + 4))) 4 0 4) 100 32 32) 192 (x + 5) (some (x + 6))) 100 8 8) 193 (x + 5) (some (x + 7)))) (x + 6) 0 32 (fun _ => -1)) = h8 at t8 k8
  have c2 := pf (nw (sR h8 129 (x + 3) (some (x + 5))) 5 0 4) (by rw [qT_nw, qT_sR, t8]) (by rw [qK_nw, qT_sR, t8, if_pos rfl])
  rw [gd_t k8, pw_e, pw_e, qT_sR, t8, pw_e, c2, clv_some, gd_t, pw_e, pw_e]
  simp only [qK_sR, qK_nw, qT_sR, qT_nw, t8]
  rw [if_neg (by omega), if_neg (by omega), if_neg (by omega)]
  exact k8
