/-! ===== VillagePhotos: chances, soundness, the making ===== -/
def nn32 (r : UInt32) : Bool := decide (r &&& 0x7fffffff ≤ 0x7f800000)
theorem nn32_spec {r : UInt32} (h : nn32 r = true) : vf_n32 r := by
  unfold nn32 at h
  exact of_decide_eq_true (p := r &&& 0x7fffffff ≤ 0x7f800000) h
def sdV (a b : Nat) : UInt32 := FP.fdiv (FP.i2f (nI a)) (FP.i2f (nI b))
theorem sd_all : (List.range 121).all (fun b => (List.range (b + 1)).all (fun a => b == 0 || (nn32 (sdV a b) && nn64 (FP.f2d (sdV a b))))) = true := by decide +kernel
theorem sd_at {a b : Nat} (hb : b ≤ 120) (ha : a ≤ b) (h0 : 0 < b) : vf_n32 (sdV a b) ∧ vf_n64 (FP.f2d (sdV a b)) := by
  have h1 := List.all_eq_true.mp sd_all b (List.mem_range.mpr (by omega))
  have h2 := List.all_eq_true.mp h1 a (List.mem_range.mpr (by omega))
  rw [Bool.or_eq_true, Bool.and_eq_true] at h2
  rcases h2 with h2 | h2
  · have := eq_of_beq h2; omega
  · exact ⟨nn32_spec h2.1, nn64_spec h2.2⟩
