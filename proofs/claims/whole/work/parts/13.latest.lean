theorem fX0_latest_H {c r : Nat} {σ : Mem} (hc : isC c) (h : fX0_latest c σ = some r) : isH r := by
  unfold fX0_latest at h
  split at h
  · obtain ⟨g, h⟩ := grd_some h
    cases h
    exact isH_mk hc g
  · obtain ⟨g, h⟩ := grd_some h
    cases h
    exact isH_mk hc g
