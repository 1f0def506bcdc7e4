theorem zk_ofInt (k : Nat) : Int32.ofInt (k : Int) = nI k := by
  apply Int32.toBitVec_inj.mp
  show BitVec.ofInt 32 (k : Int) = BitVec.ofNat 32 k
  exact BitVec.ofInt_natCast 32 k
theorem zk_inc (a k : Nat) : nI a + Int32.ofInt (k : Int) = nI (a + k) := by rw [zk_ofInt, nI_add]
section ZN
variable {C : zCx} {τ : Nat → ClassId} {ι : Nat → Nat} {R : Room} {own : String} {cc : ByteArray} {nL kc ks pc : Nat} {lv : List (Nat × Value)} {st : List Value} {w : List va_E}
theorem zk_iconst (hC : zOK C τ R own cc nL) {n : Int} (hdg : decode cc pc = .ok (.iconst n, 1)) {v : Int32} (hv : Int32.ofInt n = v) (k : zR C τ ι nL kc ks (pc + 1) lv (.int v :: st) w) : zR C τ ι nL kc ks pc lv st w := zr_iconst hC hdg (by rw [hv]; exact k)
theorem zk_bipush (hC : zOK C τ R own cc nL) {n : Int} (hdg : decode cc pc = .ok (.bipush n, 2)) {v : Int32} (hv : (Int8.ofInt n).toInt32 = v) (k : zR C τ ι nL kc ks (pc + 2) lv (.int v :: st) w) : zR C τ ι nL kc ks pc lv st w := zr_bipush hC hdg (by rw [hv]; exact k)
theorem zk_sipush (hC : zOK C τ R own cc nL) {n : Int} (hdg : decode cc pc = .ok (.sipush n, 3)) {v : Int32} (hv : (Int16.ofInt n).toInt32 = v) (k : zR C τ ι nL kc ks (pc + 3) lv (.int v :: st) w) : zR C τ ι nL kc ks pc lv st w := zr_sipush hC hdg (by rw [hv]; exact k)
theorem zn_iadd (hC : zOK C τ R own cc nL) {x y v : Int32} (hdg : decode cc pc = .ok (.iadd, 1)) (hv : x + y = v) (k : zR C τ ι nL kc ks (pc + 1) lv (.int v :: st) w) : zR C τ ι nL kc ks pc lv (.int y :: .int x :: st) w := zr_iadd hC hdg (by rw [hv]; exact k)
theorem zn_isub (hC : zOK C τ R own cc nL) {x y v : Int32} (hdg : decode cc pc = .ok (.isub, 1)) (hv : x - y = v) (k : zR C τ ι nL kc ks (pc + 1) lv (.int v :: st) w) : zR C τ ι nL kc ks pc lv (.int y :: .int x :: st) w := zr_isub hC hdg (by rw [hv]; exact k)
theorem zn_imul (hC : zOK C τ R own cc nL) {x y v : Int32} (hdg : decode cc pc = .ok (.imul, 1)) (hv : x * y = v) (k : zR C τ ι nL kc ks (pc + 1) lv (.int v :: st) w) : zR C τ ι nL kc ks pc lv (.int y :: .int x :: st) w := zr_imul hC hdg (by rw [hv]; exact k)
theorem zn_iand (hC : zOK C τ R own cc nL) {x y v : Int32} (hdg : decode cc pc = .ok (.iand, 1)) (hv : x &&& y = v) (k : zR C τ ι nL kc ks (pc + 1) lv (.int v :: st) w) : zR C τ ι nL kc ks pc lv (.int y :: .int x :: st) w := zr_iand hC hdg (by rw [hv]; exact k)
theorem zn_ior (hC : zOK C τ R own cc nL) {x y v : Int32} (hdg : decode cc pc = .ok (.ior, 1)) (hv : x ||| y = v) (k : zR C τ ι nL kc ks (pc + 1) lv (.int v :: st) w) : zR C τ ι nL kc ks pc lv (.int y :: .int x :: st) w := zr_ior hC hdg (by rw [hv]; exact k)
theorem zn_ixor (hC : zOK C τ R own cc nL) {x y v : Int32} (hdg : decode cc pc = .ok (.ixor, 1)) (hv : x ^^^ y = v) (k : zR C τ ι nL kc ks (pc + 1) lv (.int v :: st) w) : zR C τ ι nL kc ks pc lv (.int y :: .int x :: st) w := zr_ixor hC hdg (by rw [hv]; exact k)
theorem zn_ishl (hC : zOK C τ R own cc nL) {x y v : Int32} (hdg : decode cc pc = .ok (.ishl, 1)) (hv : x <<< (y &&& 31) = v) (k : zR C τ ι nL kc ks (pc + 1) lv (.int v :: st) w) : zR C τ ι nL kc ks pc lv (.int y :: .int x :: st) w := zr_ishl hC hdg (by rw [hv]; exact k)
theorem zn_ishr (hC : zOK C τ R own cc nL) {x y v : Int32} (hdg : decode cc pc = .ok (.ishr, 1)) (hv : x >>> (y &&& 31) = v) (k : zR C τ ι nL kc ks (pc + 1) lv (.int v :: st) w) : zR C τ ι nL kc ks pc lv (.int y :: .int x :: st) w := zr_ishr hC hdg (by rw [hv]; exact k)
theorem zn_iushr (hC : zOK C τ R own cc nL) {x y v : Int32} (hdg : decode cc pc = .ok (.iushr, 1)) (hv : (x.toUInt32 >>> (y.toUInt32 &&& Int32.toUInt32 31)).toInt32 = v) (k : zR C τ ι nL kc ks (pc + 1) lv (.int v :: st) w) : zR C τ ι nL kc ks pc lv (.int y :: .int x :: st) w := zr_iushr hC hdg (by rw [hv]; exact k)
theorem zn_idiv (hC : zOK C τ R own cc nL) {x y v : Int32} (hdg : decode cc pc = .ok (.idiv, 1)) (hne : ¬ y = 0) (hv : x / y = v) (k : zR C τ ι nL kc ks (pc + 1) lv (.int v :: st) w) : zR C τ ι nL kc ks pc lv (.int y :: .int x :: st) w := zr_idiv hC hdg hne (by rw [hv]; exact k)
theorem zn_irem (hC : zOK C τ R own cc nL) {x y v : Int32} (hdg : decode cc pc = .ok (.irem, 1)) (hne : ¬ y = 0) (hv : x - x / y * y = v) (k : zR C τ ι nL kc ks (pc + 1) lv (.int v :: st) w) : zR C τ ι nL kc ks pc lv (.int y :: .int x :: st) w := zr_irem hC hdg hne (by rw [hv]; exact k)
theorem zn_iinc (hC : zOK C τ R own cc nL) {i : Nat} {n : Int} {x v : Int32} (hdg : decode cc pc = .ok (.iinc i n, 3)) (hk : zlk i lv = some (.int x)) (hn : i < nL) (hv : x + Int32.ofInt n = v) (k : zR C τ ι nL kc ks (pc + 3) (zset i (.int v) lv) st w) : zR C τ ι nL kc ks pc lv st w := zr_iinc hC hdg hk hn (by rw [hv]; exact k)
end ZN
