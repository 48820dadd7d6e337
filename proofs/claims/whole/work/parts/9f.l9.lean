/-! ===== the law from its entry ===== -/
section LG
variable {g : xG} {l : Launch} {R9 : Room} {Z : List Frame → Array Value → State → State → Prop} {b L : Nat} {xs : Nat → Int32}
theorem law_open {hf : Nat → Option xE} {v : Nat} (hs : xSc g b L xs) (hL : L ≤ 3072) (hF : 11 ≤ R9.frames ∧ 430 ≤ R9.locals) (hR : 60000 ≤ R9.cells ∧ 600000 ≤ R9.slots) (hE : ∀ V h kc ks, kc ≤ R9.cells → ks ≤ R9.slots → xP g l mL_law [] R9 Z 2005 V [] h kc ks) :
    xP g l mL_law [] R9 Z 0 [some (.ref b), none, none, none, none, none, none, none, none, none] [] (hf, v) 0 0 := by
  sorry
end LG
