/-! throw new NoSuchElementException("..") -/
section PMN
variable {l : Launch} {Γ : pmG} {y z : pmY} {d pc : Nat} {ls st : List Value} {m : pmM}
theorem pm_throwNW {ik is ic : Nat} {text : String} (hh : y.2.2.2.2 = []) (h : pm_xOkN y.1.cls text ik is ic) (hdp : pm_dp st ≤ 50)
    (d0 : decode y.2.1 pc = .ok (.new ik, 3)) (d3 : decode y.2.1 (pc + 3) = .ok (.dup, 1)) (d4 : decode y.2.1 (pc + 4) = .ok (.ldc_w is, 3)) (d7 : decode y.2.1 (pc + 7) = .ok (.invokespecial ic, 3)) (d10 : decode y.2.1 (pc + 10) = .ok (.athrow, 1)) :
    pm_G l Γ y d pc ls st m (some (.inr 0, pm_al m (199, 0, fun _ => none) 6)) := by
  sorry
end PMN
