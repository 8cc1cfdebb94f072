/-! SOUNDNESS, 6: the one grid -/
section SM6
variable {p : Program} {l : Launch} {e : Env} {R : Room} {s : State} {m : MethodId} {args : Array Value} {below : List Frame} {meth : Method} {c : Code} {H : Heap} {locs : List Loc} {cells slots : Nat} {Q : State → Prop} {cc : ByteArray} {own : String}
theorem m_mult (X : Cx) (hx : p.tables.exec = Jvm.exec) (hb : c.code = cc) (hown : s.vm.findClass own = some m.cls) (hts : ∀ w ∈ gw, w.before args s = true) (hF : SF X s) {μ : Mm} {i : Nat} {r : List Value} {pc : Nat} {lc : Array Slot} (hd : decode cc pc = .ok (.multianewarray i 2, 4)) (hlk : (Cond.classLink own i "[[I").before args s = true) (hov : (Cond.arrayOver (.array .int)).before args s = true) (h0 : μ.1 ≠ 0) (hW : Wd X μ H) (hS : va_S (wA X) s.heap H locs) (hbs : xB X ≤ s.heap.size) (hc : cells + 5 ≤ R.cells) (hs : slots + 36 ≤ R.slots)
    (k : ∀ H' locs', Wd X (nw2 μ 4 8) H' → va_S (wA X) s.heap H' locs' → W p l e R s m args below meth c H' locs' (cells + 5) (slots + 36) Q (F0 m (pc + 4) lc (.ref (ph X μ.1) :: r))) : W p l e R s m args below meth c H locs cells slots Q (F0 m pc lc (.int (Int32.ofInt 8) :: .int (Int32.ofInt 4) :: r)) := by
  sorry
end SM6
