/-! ===== the words that the tables ask for are there ===== -/

set_option maxRecDepth 100000 in
theorem tLen : uMx = tMth.map (fun d => d.2.2.1) := by decide +kernel
theorem tKt_nil : aKt [] tTA := fun q hq => by cases hq
noncomputable def tAw : List Cond := [.arrayClass .int, .arrayClass .long, .arrayClass .byte, .arrayClass .boolean]
set_option maxRecDepth 100000 in
theorem tAw_ok : ∀ w ∈ tAw, w ∈ tW0 := inAt_ok (is := [(1, 130), (1, 129), (2, 44), (2, 161)]) (by decide +kernel)
theorem tTA_ok : aTAok vwCl tTA tW0 := by
  refine ⟨rfl, tAw_ok _ (by simp [tAw]), tAw_ok _ (by simp [tAw]), tAw_ok _ (by simp [tAw]), tAw_ok _ (by simp [tAw]), fun t ty h h2 => ?_⟩
  simp only [tTA, List.mem_cons, Prod.mk.injEq, List.not_mem_nil, or_false] at h
  rcases h with ⟨rfl, rfl⟩ | ⟨rfl, rfl⟩ | ⟨rfl, rfl⟩ | ⟨rfl, rfl⟩ | ⟨rfl, rfl⟩ | ⟨rfl, rfl⟩
  all_goals first | (exfalso; omega) | exact ⟨_, rfl, rfl⟩
noncomputable def tP (q : aMd × aBd) : Prop := ∀ kd : List aKd, aKt kd tTA → aSg vwCl tTA tTy kd tNw tNc tAo tW0 tMth uMx tXn q.1 q.2 ∧ plainFor q.1.1 = true
theorem tP_of {d : aMd} {Bd : aBd} (h1 : ∀ w ∈ rqM vwCl tMth tXn d.1.cls Bd, w ∈ tW0) (h2 : ∀ z ∈ Bd.2.1, decode d.2.1 z.1 = .ok (z.2.1, z.2.2)) (h3 : okM vwCl tTA tAo tNw tNc tMth uMx tXn d Bd = true) : tP (d, Bd) :=
  fun kd hkt => aSg_of (kd := kd) tW0_all tTA_ok hkt h1 h3 h2
set_option maxRecDepth 100000 in
theorem s0_ : tP (d0_, v0_) := tP_of x0_ e0_ (by decide +kernel)
set_option maxRecDepth 100000 in
theorem s1_ : tP (d1_, v1_) := tP_of x1_ e1_ (by decide +kernel)
set_option maxRecDepth 100000 in
theorem s2_ : tP (d2_, v2_) := tP_of x2_ e2_ (by decide +kernel)
set_option maxRecDepth 100000 in
theorem s3_ : tP (d3_, v3_) := tP_of x3_ e3_ (by decide +kernel)
set_option maxRecDepth 100000 in
theorem s4_ : tP (d4_, v4_) := tP_of x4_ e4_ (by decide +kernel)
set_option maxRecDepth 100000 in
theorem s5_ : tP (d5_, v5_) := tP_of x5_ e5_ (by decide +kernel)
set_option maxRecDepth 100000 in
theorem s6_ : tP (d6_, v6_) := tP_of x6_ e6_ (by decide +kernel)
set_option maxRecDepth 100000 in
theorem s7_ : tP (d7_, v7_) := tP_of x7_ e7_ (by decide +kernel)
set_option maxRecDepth 100000 in
theorem s8_ : tP (d8_, v8_) := tP_of x8_ e8_ (by decide +kernel)
set_option maxRecDepth 100000 in
theorem s9_ : tP (d9_, v9_) := tP_of x9_ e9_ (by decide +kernel)
set_option maxRecDepth 100000 in
theorem s10_ : tP (d10_, v10_) := tP_of x10_ e10_ (by decide +kernel)
set_option maxRecDepth 100000 in
theorem s11_ : tP (d11_, v11_) := tP_of x11_ e11_ (by decide +kernel)
set_option maxRecDepth 100000 in
theorem s12_ : tP (d12_, v12_) := tP_of x12_ e12_ (by decide +kernel)
set_option maxRecDepth 100000 in
theorem s13_ : tP (d13_, v13_) := tP_of x13_ e13_ (by decide +kernel)
set_option maxRecDepth 100000 in
theorem s14_ : tP (d14_, v14_) := tP_of x14_ e14_ (by decide +kernel)
set_option maxRecDepth 100000 in
theorem s15_ : tP (d15_, v15_) := tP_of x15_ e15_ (by decide +kernel)
set_option maxRecDepth 100000 in
theorem s16_ : tP (d16_, v16_) := tP_of x16_ e16_ (by decide +kernel)
set_option maxRecDepth 100000 in
theorem s17_ : tP (d17_, v17_) := tP_of x17_ e17_ (by decide +kernel)
set_option maxRecDepth 100000 in
theorem s18_ : tP (d18_, v18_) := tP_of x18_ e18_ (by decide +kernel)
set_option maxRecDepth 100000 in
theorem s19_ : tP (d19_, v19_) := tP_of x19_ e19_ (by decide +kernel)
set_option maxRecDepth 100000 in
theorem s20_ : tP (d20_, v20_) := tP_of x20_ e20_ (by decide +kernel)
set_option maxRecDepth 100000 in
theorem s21_ : tP (d21_, v21_) := tP_of x21_ e21_ (by decide +kernel)
set_option maxRecDepth 100000 in
theorem s22_ : tP (d22_, v22_) := tP_of x22_ e22_ (by decide +kernel)
set_option maxRecDepth 100000 in
theorem s23_ : tP (d23_, v23_) := tP_of x23_ e23_ (by decide +kernel)
set_option maxRecDepth 100000 in
theorem s24_ : tP (d24_, v24_) := tP_of x24_ e24_ (by decide +kernel)
set_option maxRecDepth 100000 in
theorem s25_ : tP (d25_, v25_) := tP_of x25_ e25_ (by decide +kernel)
set_option maxRecDepth 100000 in
theorem s26_ : tP (d26_, v26_) := tP_of x26_ e26_ (by decide +kernel)
set_option maxRecDepth 100000 in
theorem s27_ : tP (d27_, v27_) := tP_of x27_ e27_ (by decide +kernel)
set_option maxRecDepth 100000 in
theorem s28_ : tP (d28_, v28_) := tP_of x28_ e28_ (by decide +kernel)
set_option maxRecDepth 100000 in
theorem s29_ : tP (d29_, v29_) := tP_of x29_ e29_ (by decide +kernel)
set_option maxRecDepth 100000 in
theorem s30_ : tP (d30_, v30_) := tP_of x30_ e30_ (by decide +kernel)
set_option maxRecDepth 100000 in
theorem s31_ : tP (d31_, v31_) := tP_of x31_ e31_ (by decide +kernel)
set_option maxRecDepth 100000 in
theorem s32_ : tP (d32_, v32_) := tP_of x32_ e32_ (by decide +kernel)
set_option maxRecDepth 100000 in
theorem s33_ : tP (d33_, v33_) := tP_of x33_ e33_ (by decide +kernel)
set_option maxRecDepth 100000 in
theorem s34_ : tP (d34_, v34_) := tP_of x34_ e34_ (by decide +kernel)
set_option maxRecDepth 100000 in
theorem s35_ : tP (d35_, v35_) := tP_of x35_ e35_ (by decide +kernel)
set_option maxRecDepth 100000 in
theorem s36_ : tP (d36_, v36_) := tP_of x36_ e36_ (by decide +kernel)
set_option maxRecDepth 100000 in
theorem s37_ : tP (d37_, v37_) := tP_of x37_ e37_ (by decide +kernel)
set_option maxRecDepth 100000 in
theorem s38_ : tP (d38_, v38_) := tP_of x38_ e38_ (by decide +kernel)
set_option maxRecDepth 100000 in
theorem s39_ : tP (d39_, v39_) := tP_of x39_ e39_ (by decide +kernel)
set_option maxRecDepth 100000 in
theorem s40_ : tP (d40_, v40_) := tP_of x40_ e40_ (by decide +kernel)
set_option maxRecDepth 100000 in
theorem s41_ : tP (d41_, v41_) := tP_of x41_ e41_ (by decide +kernel)
set_option maxRecDepth 100000 in
theorem s42_ : tP (d42_, v42_) := tP_of x42_ e42_ (by decide +kernel)
set_option maxRecDepth 100000 in
theorem s43_ : tP (d43_, v43_) := tP_of x43_ e43_ (by decide +kernel)
set_option maxRecDepth 100000 in
theorem s44_ : tP (d44_, v44_) := tP_of x44_ e44_ (by decide +kernel)
set_option maxRecDepth 100000 in
theorem s45_ : tP (d45_, v45_) := tP_of x45_ e45_ (by decide +kernel)
set_option maxRecDepth 100000 in
theorem s46_ : tP (d46_, v46_) := tP_of x46_ e46_ (by decide +kernel)
set_option maxRecDepth 100000 in
theorem s47_ : tP (d47_, v47_) := tP_of x47_ e47_ (by decide +kernel)
set_option maxRecDepth 100000 in
theorem s48_ : tP (d48_, v48_) := tP_of x48_ e48_ (by decide +kernel)
set_option maxRecDepth 100000 in
theorem s49_ : tP (d49_, v49_) := tP_of x49_ e49_ (by decide +kernel)
set_option maxRecDepth 100000 in
theorem s50_ : tP (d50_, v50_) := tP_of x50_ e50_ (by decide +kernel)
set_option maxRecDepth 100000 in
theorem s51_ : tP (d51_, v51_) := tP_of x51_ e51_ (by decide +kernel)
set_option maxRecDepth 100000 in
theorem s52_ : tP (d52_, v52_) := tP_of x52_ e52_ (by decide +kernel)
set_option maxRecDepth 100000 in
theorem s53_ : tP (d53_, v53_) := tP_of x53_ e53_ (by decide +kernel)
set_option maxRecDepth 100000 in
theorem s54_ : tP (d54_, v54_) := tP_of x54_ e54_ (by decide +kernel)
set_option maxRecDepth 100000 in
theorem s55_ : tP (d55_, v55_) := tP_of x55_ e55_ (by decide +kernel)
set_option maxRecDepth 100000 in
theorem s56_ : tP (d56_, v56_) := tP_of x56_ e56_ (by decide +kernel)
set_option maxRecDepth 100000 in
theorem s57_ : tP (d57_, v57_) := tP_of x57_ e57_ (by decide +kernel)
set_option maxRecDepth 100000 in
theorem s58_ : tP (d58_, v58_) := tP_of x58_ e58_ (by decide +kernel)
set_option maxRecDepth 100000 in
theorem s59_ : tP (d59_, v59_) := tP_of x59_ e59_ (by decide +kernel)
set_option maxRecDepth 100000 in
theorem s60_ : tP (d60_, v60_) := tP_of x60_ e60_ (by decide +kernel)
set_option maxRecDepth 100000 in
theorem s61_ : tP (d61_, v61_) := tP_of x61_ e61_ (by decide +kernel)
set_option maxRecDepth 100000 in
theorem s62_ : tP (d62_, v62_) := tP_of x62_ e62_ (by decide +kernel)
set_option maxRecDepth 100000 in
theorem s63_ : tP (d63_, v63_) := tP_of x63_ e63_ (by decide +kernel)
set_option maxRecDepth 100000 in
theorem s64_ : tP (d64_, v64_) := tP_of x64_ e64_ (by decide +kernel)
set_option maxRecDepth 100000 in
theorem s65_ : tP (d65_, v65_) := tP_of x65_ e65_ (by decide +kernel)
set_option maxRecDepth 100000 in
theorem s66_ : tP (d66_, v66_) := tP_of x66_ e66_ (by decide +kernel)
set_option maxRecDepth 100000 in
theorem s67_ : tP (d67_, v67_) := tP_of x67_ e67_ (by decide +kernel)
set_option maxRecDepth 100000 in
theorem s68_ : tP (d68_, v68_) := tP_of x68_ e68_ (by decide +kernel)
set_option maxRecDepth 100000 in
theorem s69_ : tP (d69_, v69_) := tP_of x69_ e69_ (by decide +kernel)
set_option maxRecDepth 100000 in
theorem s70_ : tP (d70_, v70_) := tP_of x70_ e70_ (by decide +kernel)
set_option maxRecDepth 100000 in
theorem s71_ : tP (d71_, v71_) := tP_of x71_ e71_ (by decide +kernel)
set_option maxRecDepth 100000 in
theorem s72_ : tP (d72_, v72_) := tP_of x72_ e72_ (by decide +kernel)
set_option maxRecDepth 100000 in
theorem s73_ : tP (d73_, v73_) := tP_of x73_ e73_ (by decide +kernel)
set_option maxRecDepth 100000 in
theorem s74_ : tP (d74_, v74_) := tP_of x74_ e74_ (by decide +kernel)
set_option maxRecDepth 100000 in
theorem s75_ : tP (d75_, v75_) := tP_of x75_ e75_ (by decide +kernel)
set_option maxRecDepth 100000 in
theorem s76_ : tP (d76_, v76_) := tP_of x76_ e76_ (by decide +kernel)
set_option maxRecDepth 100000 in
theorem s77_ : tP (d77_, v77_) := tP_of x77_ e77_ (by decide +kernel)
set_option maxRecDepth 100000 in
theorem s78_ : tP (d78_, v78_) := tP_of x78_ e78_ (by decide +kernel)
set_option maxRecDepth 100000 in
theorem s79_ : tP (d79_, v79_) := tP_of x79_ e79_ (by decide +kernel)
set_option maxRecDepth 100000 in
theorem s80_ : tP (d80_, v80_) := tP_of x80_ e80_ (by decide +kernel)
set_option maxRecDepth 100000 in
theorem s81_ : tP (d81_, v81_) := tP_of x81_ e81_ (by decide +kernel)
set_option maxRecDepth 100000 in
theorem s82_ : tP (d82_, v82_) := tP_of x82_ e82_ (by decide +kernel)
set_option maxRecDepth 100000 in
theorem s83_ : tP (d83_, v83_) := tP_of x83_ e83_ (by decide +kernel)
set_option maxRecDepth 100000 in
theorem s84_ : tP (d84_, v84_) := tP_of x84_ e84_ (by decide +kernel)
set_option maxRecDepth 100000 in
theorem s85_ : tP (d85_, v85_) := tP_of x85_ e85_ (by decide +kernel)
set_option maxRecDepth 100000 in
theorem s86_ : tP (d86_, v86_) := tP_of x86_ e86_ (by decide +kernel)
set_option maxRecDepth 100000 in
theorem s87_ : tP (d87_, v87_) := tP_of x87_ e87_ (by decide +kernel)
set_option maxRecDepth 100000 in
theorem s88_ : tP (d88_, v88_) := tP_of x88_ e88_ (by decide +kernel)
set_option maxRecDepth 100000 in
theorem s89_ : tP (d89_, v89_) := tP_of x89_ e89_ (by decide +kernel)
set_option maxRecDepth 100000 in
theorem s90_ : tP (d90_, v90_) := tP_of x90_ e90_ (by decide +kernel)
set_option maxRecDepth 100000 in
theorem s91_ : tP (d91_, v91_) := tP_of x91_ e91_ (by decide +kernel)
set_option maxRecDepth 100000 in
theorem s92_ : tP (d92_, v92_) := tP_of x92_ e92_ (by decide +kernel)
set_option maxRecDepth 100000 in
theorem s93_ : tP (d93_, v93_) := tP_of x93_ e93_ (by decide +kernel)
set_option maxRecDepth 100000 in
theorem s94_ : tP (d94_, v94_) := tP_of x94_ e94_ (by decide +kernel)
set_option maxRecDepth 100000 in
theorem s95_ : tP (d95_, v95_) := tP_of x95_ e95_ (by decide +kernel)
set_option maxRecDepth 100000 in
theorem s96_ : tP (d96_, v96_) := tP_of x96_ e96_ (by decide +kernel)
set_option maxRecDepth 100000 in
theorem s97_ : tP (d97_, v97_) := tP_of x97_ e97_ (by decide +kernel)
set_option maxRecDepth 100000 in
theorem s98_ : tP (d98_, v98_) := tP_of x98_ e98_ (by decide +kernel)
set_option maxRecDepth 100000 in
theorem s99_ : tP (d99_, v99_) := tP_of x99_ e99_ (by decide +kernel)
set_option maxRecDepth 100000 in
theorem s100_ : tP (d100_, v100_) := tP_of x100_ e100_ (by decide +kernel)
set_option maxRecDepth 100000 in
theorem s101_ : tP (d101_, v101_) := tP_of x101_ e101_ (by decide +kernel)
set_option maxRecDepth 100000 in
theorem s102_ : tP (d102_, v102_) := tP_of x102_ e102_ (by decide +kernel)
set_option maxRecDepth 100000 in
theorem s103_ : tP (d103_, v103_) := tP_of x103_ e103_ (by decide +kernel)
set_option maxRecDepth 100000 in
theorem s104_ : tP (d104_, v104_) := tP_of x104_ e104_ (by decide +kernel)
set_option maxRecDepth 100000 in
theorem s105_ : tP (d105_, v105_) := tP_of x105_ e105_ (by decide +kernel)
set_option maxRecDepth 100000 in
theorem s106_ : tP (d106_, v106_) := tP_of x106_ e106_ (by decide +kernel)
set_option maxRecDepth 100000 in
theorem s107_ : tP (d107_, v107_) := tP_of x107_ e107_ (by decide +kernel)
set_option maxRecDepth 100000 in
theorem s108_ : tP (d108_, v108_) := tP_of x108_ e108_ (by decide +kernel)
set_option maxRecDepth 100000 in
theorem s109_ : tP (d109_, v109_) := tP_of x109_ e109_ (by decide +kernel)
set_option maxRecDepth 100000 in
theorem s110_ : tP (d110_, v110_) := tP_of x110_ e110_ (by decide +kernel)
set_option maxRecDepth 100000 in
theorem s111_ : tP (d111_, v111_) := tP_of x111_ e111_ (by decide +kernel)
set_option maxRecDepth 100000 in
theorem s112_ : tP (d112_, v112_) := tP_of x112_ e112_ (by decide +kernel)
set_option maxRecDepth 100000 in
theorem s113_ : tP (d113_, v113_) := tP_of x113_ e113_ (by decide +kernel)
set_option maxRecDepth 100000 in
theorem s114_ : tP (d114_, v114_) := tP_of x114_ e114_ (by decide +kernel)
set_option maxRecDepth 100000 in
theorem s115_ : tP (d115_, v115_) := tP_of x115_ e115_ (by decide +kernel)
set_option maxRecDepth 100000 in
theorem s116_ : tP (d116_, v116_) := tP_of x116_ e116_ (by decide +kernel)
set_option maxRecDepth 100000 in
theorem s117_ : tP (d117_, v117_) := tP_of x117_ e117_ (by decide +kernel)
set_option maxRecDepth 100000 in
theorem s118_ : tP (d118_, v118_) := tP_of x118_ e118_ (by decide +kernel)
set_option maxRecDepth 100000 in
theorem s119_ : tP (d119_, v119_) := tP_of x119_ e119_ (by decide +kernel)
set_option maxRecDepth 100000 in
theorem s120_ : tP (d120_, v120_) := tP_of x120_ e120_ (by decide +kernel)
set_option maxRecDepth 100000 in
theorem s121_ : tP (d121_, v121_) := tP_of x121_ e121_ (by decide +kernel)
set_option maxRecDepth 100000 in
theorem s122_ : tP (d122_, v122_) := tP_of x122_ e122_ (by decide +kernel)
set_option maxRecDepth 100000 in
theorem s123_ : tP (d123_, v123_) := tP_of x123_ e123_ (by decide +kernel)
set_option maxRecDepth 100000 in
theorem s124_ : tP (d124_, v124_) := tP_of x124_ e124_ (by decide +kernel)
set_option maxRecDepth 100000 in
theorem s125_ : tP (d125_, v125_) := tP_of x125_ e125_ (by decide +kernel)
set_option maxRecDepth 100000 in
theorem s126_ : tP (d126_, v126_) := tP_of x126_ e126_ (by decide +kernel)
set_option maxRecDepth 100000 in
theorem s127_ : tP (d127_, v127_) := tP_of x127_ e127_ (by decide +kernel)
set_option maxRecDepth 100000 in
theorem s128_ : tP (d128_, v128_) := tP_of x128_ e128_ (by decide +kernel)
set_option maxRecDepth 100000 in
theorem s129_ : tP (d129_, v129_) := tP_of x129_ e129_ (by decide +kernel)
set_option maxRecDepth 100000 in
theorem s130_ : tP (d130_, v130_) := tP_of x130_ e130_ (by decide +kernel)
set_option maxRecDepth 100000 in
theorem s131_ : tP (d131_, v131_) := tP_of x131_ e131_ (by decide +kernel)
set_option maxRecDepth 100000 in
theorem s132_ : tP (d132_, v132_) := tP_of x132_ e132_ (by decide +kernel)
set_option maxRecDepth 100000 in
theorem s133_ : tP (d133_, v133_) := tP_of x133_ e133_ (by decide +kernel)
set_option maxRecDepth 100000 in
theorem s134_ : tP (d134_, v134_) := tP_of x134_ e134_ (by decide +kernel)
set_option maxRecDepth 100000 in
theorem s135_ : tP (d135_, v135_) := tP_of x135_ e135_ (by decide +kernel)
set_option maxRecDepth 100000 in
theorem s136_ : tP (d136_, v136_) := tP_of x136_ e136_ (by decide +kernel)
set_option maxRecDepth 100000 in
theorem s137_ : tP (d137_, v137_) := tP_of x137_ e137_ (by decide +kernel)
set_option maxRecDepth 100000 in
theorem s138_ : tP (d138_, v138_) := tP_of x138_ e138_ (by decide +kernel)
set_option maxRecDepth 100000 in
theorem s139_ : tP (d139_, v139_) := tP_of x139_ e139_ (by decide +kernel)
set_option maxRecDepth 100000 in
theorem s140_ : tP (d140_, v140_) := tP_of x140_ e140_ (by decide +kernel)
set_option maxRecDepth 100000 in
theorem s141_ : tP (d141_, v141_) := tP_of x141_ e141_ (by decide +kernel)
set_option maxRecDepth 100000 in
theorem s142_ : tP (d142_, v142_) := tP_of x142_ e142_ (by decide +kernel)
set_option maxRecDepth 100000 in
theorem s143_ : tP (d143_, v143_) := tP_of x143_ e143_ (by decide +kernel)
set_option maxRecDepth 100000 in
theorem s144_ : tP (d144_, v144_) := tP_of x144_ e144_ (by decide +kernel)
set_option maxRecDepth 100000 in
theorem s145_ : tP (d145_, v145_) := tP_of x145_ e145_ (by decide +kernel)
set_option maxRecDepth 100000 in
theorem s146_ : tP (d146_, v146_) := tP_of x146_ e146_ (by decide +kernel)
set_option maxRecDepth 100000 in
theorem s147_ : tP (d147_, v147_) := tP_of x147_ e147_ (by decide +kernel)
set_option maxRecDepth 100000 in
theorem s148_ : tP (d148_, v148_) := tP_of x148_ e148_ (by decide +kernel)
set_option maxRecDepth 100000 in
theorem s149_ : tP (d149_, v149_) := tP_of x149_ e149_ (by decide +kernel)
set_option maxRecDepth 100000 in
theorem s150_ : tP (d150_, v150_) := tP_of x150_ e150_ (by decide +kernel)
set_option maxRecDepth 100000 in
theorem s151_ : tP (d151_, v151_) := tP_of x151_ e151_ (by decide +kernel)
set_option maxRecDepth 100000 in
theorem s152_ : tP (d152_, v152_) := tP_of x152_ e152_ (by decide +kernel)
set_option maxRecDepth 100000 in
theorem s153_ : tP (d153_, v153_) := tP_of x153_ e153_ (by decide +kernel)
set_option maxRecDepth 100000 in
theorem s154_ : tP (d154_, v154_) := tP_of x154_ e154_ (by decide +kernel)
set_option maxRecDepth 100000 in
theorem s155_ : tP (d155_, v155_) := tP_of x155_ e155_ (by decide +kernel)
set_option maxRecDepth 100000 in
theorem s156_ : tP (d156_, v156_) := tP_of x156_ e156_ (by decide +kernel)
set_option maxRecDepth 100000 in
theorem s157_ : tP (d157_, v157_) := tP_of x157_ e157_ (by decide +kernel)
set_option maxRecDepth 100000 in
theorem s158_ : tP (d158_, v158_) := tP_of x158_ e158_ (by decide +kernel)
set_option maxRecDepth 100000 in
theorem s159_ : tP (d159_, v159_) := tP_of x159_ e159_ (by decide +kernel)
set_option maxRecDepth 100000 in
theorem s160_ : tP (d160_, v160_) := tP_of x160_ e160_ (by decide +kernel)
set_option maxRecDepth 100000 in
theorem s161_ : tP (d161_, v161_) := tP_of x161_ e161_ (by decide +kernel)
set_option maxRecDepth 100000 in
theorem s162_ : tP (d162_, v162_) := tP_of x162_ e162_ (by decide +kernel)
set_option maxRecDepth 100000 in
theorem s163_ : tP (d163_, v163_) := tP_of x163_ e163_ (by decide +kernel)
set_option maxRecDepth 100000 in
theorem s164_ : tP (d164_, v164_) := tP_of x164_ e164_ (by decide +kernel)
set_option maxRecDepth 100000 in
theorem s165_ : tP (d165_, v165_) := tP_of x165_ e165_ (by decide +kernel)
set_option maxRecDepth 100000 in
theorem s166_ : tP (d166_, v166_) := tP_of x166_ e166_ (by decide +kernel)
set_option maxRecDepth 100000 in
theorem s167_ : tP (d167_, v167_) := tP_of x167_ e167_ (by decide +kernel)
set_option maxRecDepth 100000 in
theorem s168_ : tP (d168_, v168_) := tP_of x168_ e168_ (by decide +kernel)
set_option maxRecDepth 100000 in
theorem s169_ : tP (d169_, v169_) := tP_of x169_ e169_ (by decide +kernel)
set_option maxRecDepth 100000 in
theorem s170_ : tP (d170_, v170_) := tP_of x170_ e170_ (by decide +kernel)
set_option maxRecDepth 100000 in
theorem s171_ : tP (d171_, v171_) := tP_of x171_ e171_ (by decide +kernel)
set_option maxRecDepth 100000 in
theorem s172_ : tP (d172_, v172_) := tP_of x172_ e172_ (by decide +kernel)
set_option maxRecDepth 100000 in
theorem s173_ : tP (d173_, v173_) := tP_of x173_ e173_ (by decide +kernel)
set_option maxRecDepth 100000 in
theorem s174_ : tP (d174_, v174_) := tP_of x174_ e174_ (by decide +kernel)
set_option maxRecDepth 100000 in
theorem s175_ : tP (d175_, v175_) := tP_of x175_ e175_ (by decide +kernel)
set_option maxRecDepth 100000 in
theorem s176_ : tP (d176_, v176_) := tP_of x176_ e176_ (by decide +kernel)
set_option maxRecDepth 100000 in
theorem s177_ : tP (d177_, v177_) := tP_of x177_ e177_ (by decide +kernel)
set_option maxRecDepth 100000 in
theorem s178_ : tP (d178_, v178_) := tP_of x178_ e178_ (by decide +kernel)
set_option maxRecDepth 100000 in
theorem s179_ : tP (d179_, v179_) := tP_of x179_ e179_ (by decide +kernel)
set_option maxRecDepth 100000 in
theorem s180_ : tP (d180_, v180_) := tP_of x180_ e180_ (by decide +kernel)
set_option maxRecDepth 100000 in
theorem s181_ : tP (d181_, v181_) := tP_of x181_ e181_ (by decide +kernel)
set_option maxRecDepth 100000 in
theorem s182_ : tP (d182_, v182_) := tP_of x182_ e182_ (by decide +kernel)
set_option maxRecDepth 100000 in
theorem s183_ : tP (d183_, v183_) := tP_of x183_ e183_ (by decide +kernel)
set_option maxRecDepth 100000 in
theorem s184_ : tP (d184_, v184_) := tP_of x184_ e184_ (by decide +kernel)
set_option maxRecDepth 100000 in
theorem s185_ : tP (d185_, v185_) := tP_of x185_ e185_ (by decide +kernel)
set_option maxRecDepth 100000 in
theorem s186_ : tP (d186_, v186_) := tP_of x186_ e186_ (by decide +kernel)
set_option maxRecDepth 100000 in
theorem s187_ : tP (d187_, v187_) := tP_of x187_ e187_ (by decide +kernel)
set_option maxRecDepth 100000 in
theorem s188_ : tP (d188_, v188_) := tP_of x188_ e188_ (by decide +kernel)
set_option maxRecDepth 100000 in
theorem s189_ : tP (d189_, v189_) := tP_of x189_ e189_ (by decide +kernel)
set_option maxRecDepth 100000 in
theorem s190_ : tP (d190_, v190_) := tP_of x190_ e190_ (by decide +kernel)
set_option maxRecDepth 100000 in
theorem s191_ : tP (d191_, v191_) := tP_of x191_ e191_ (by decide +kernel)
set_option maxRecDepth 100000 in
theorem s192_ : tP (d192_, v192_) := tP_of x192_ e192_ (by decide +kernel)
set_option maxRecDepth 100000 in
theorem s193_ : tP (d193_, v193_) := tP_of x193_ e193_ (by decide +kernel)
set_option maxRecDepth 100000 in
theorem s194_ : tP (d194_, v194_) := tP_of x194_ e194_ (by decide +kernel)
set_option maxRecDepth 100000 in
theorem s195_ : tP (d195_, v195_) := tP_of x195_ e195_ (by decide +kernel)
set_option maxRecDepth 100000 in
theorem s196_ : tP (d196_, v196_) := tP_of x196_ e196_ (by decide +kernel)
set_option maxRecDepth 100000 in
theorem s197_ : tP (d197_, v197_) := tP_of x197_ e197_ (by decide +kernel)
set_option maxRecDepth 100000 in
theorem s198_ : tP (d198_, v198_) := tP_of x198_ e198_ (by decide +kernel)
set_option maxRecDepth 100000 in
theorem s199_ : tP (d199_, v199_) := tP_of x199_ e199_ (by decide +kernel)
set_option maxRecDepth 100000 in
theorem s200_ : tP (d200_, v200_) := tP_of x200_ e200_ (by decide +kernel)
set_option maxRecDepth 100000 in
theorem s201_ : tP (d201_, v201_) := tP_of x201_ e201_ (by decide +kernel)
set_option maxRecDepth 100000 in
theorem s202_ : tP (d202_, v202_) := tP_of x202_ e202_ (by decide +kernel)
set_option maxRecDepth 100000 in
theorem s203_ : tP (d203_, v203_) := tP_of x203_ e203_ (by decide +kernel)
set_option maxRecDepth 100000 in
theorem s204_ : tP (d204_, v204_) := tP_of x204_ e204_ (by decide +kernel)
set_option maxRecDepth 100000 in
theorem s205_ : tP (d205_, v205_) := tP_of x205_ e205_ (by decide +kernel)
set_option maxRecDepth 100000 in
theorem s206_ : tP (d206_, v206_) := tP_of x206_ e206_ (by decide +kernel)
set_option maxRecDepth 100000 in
theorem s207_ : tP (d207_, v207_) := tP_of x207_ e207_ (by decide +kernel)
set_option maxRecDepth 100000 in
theorem s208_ : tP (d208_, v208_) := tP_of x208_ e208_ (by decide +kernel)
set_option maxRecDepth 100000 in
theorem s209_ : tP (d209_, v209_) := tP_of x209_ e209_ (by decide +kernel)
set_option maxRecDepth 100000 in
theorem s210_ : tP (d210_, v210_) := tP_of x210_ e210_ (by decide +kernel)
set_option maxRecDepth 100000 in
theorem s211_ : tP (d211_, v211_) := tP_of x211_ e211_ (by decide +kernel)
set_option maxRecDepth 100000 in
theorem s212_ : tP (d212_, v212_) := tP_of x212_ e212_ (by decide +kernel)
set_option maxRecDepth 100000 in
theorem s213_ : tP (d213_, v213_) := tP_of x213_ e213_ (by decide +kernel)
set_option maxRecDepth 100000 in
theorem s214_ : tP (d214_, v214_) := tP_of x214_ e214_ (by decide +kernel)
set_option maxRecDepth 100000 in
theorem s215_ : tP (d215_, v215_) := tP_of x215_ e215_ (by decide +kernel)
set_option maxRecDepth 100000 in
theorem s216_ : tP (d216_, v216_) := tP_of x216_ e216_ (by decide +kernel)
set_option maxRecDepth 100000 in
theorem s217_ : tP (d217_, v217_) := tP_of x217_ e217_ (by decide +kernel)
set_option maxRecDepth 100000 in
theorem s218_ : tP (d218_, v218_) := tP_of x218_ e218_ (by decide +kernel)
set_option maxRecDepth 100000 in
theorem s219_ : tP (d219_, v219_) := tP_of x219_ e219_ (by decide +kernel)
set_option maxRecDepth 100000 in
theorem s220_ : tP (d220_, v220_) := tP_of x220_ e220_ (by decide +kernel)
set_option maxRecDepth 100000 in
theorem s221_ : tP (d221_, v221_) := tP_of x221_ e221_ (by decide +kernel)
set_option maxRecDepth 100000 in
theorem s222_ : tP (d222_, v222_) := tP_of x222_ e222_ (by decide +kernel)
set_option maxRecDepth 100000 in
theorem s223_ : tP (d223_, v223_) := tP_of x223_ e223_ (by decide +kernel)
set_option maxRecDepth 100000 in
theorem s224_ : tP (d224_, v224_) := tP_of x224_ e224_ (by decide +kernel)
set_option maxRecDepth 100000 in
theorem s225_ : tP (d225_, v225_) := tP_of x225_ e225_ (by decide +kernel)
set_option maxRecDepth 100000 in
theorem s226_ : tP (d226_, v226_) := tP_of x226_ e226_ (by decide +kernel)
set_option maxRecDepth 100000 in
theorem s227_ : tP (d227_, v227_) := tP_of x227_ e227_ (by decide +kernel)
set_option maxRecDepth 100000 in
theorem s228_ : tP (d228_, v228_) := tP_of x228_ e228_ (by decide +kernel)
set_option maxRecDepth 100000 in
theorem s229_ : tP (d229_, v229_) := tP_of x229_ e229_ (by decide +kernel)
set_option maxRecDepth 100000 in
theorem s230_ : tP (d230_, v230_) := tP_of x230_ e230_ (by decide +kernel)
set_option maxRecDepth 100000 in
theorem s231_ : tP (d231_, v231_) := tP_of x231_ e231_ (by decide +kernel)
set_option maxRecDepth 100000 in
theorem s232_ : tP (d232_, v232_) := tP_of x232_ e232_ (by decide +kernel)
set_option maxRecDepth 100000 in
theorem s233_ : tP (d233_, v233_) := tP_of x233_ e233_ (by decide +kernel)
set_option maxRecDepth 100000 in
theorem s234_ : tP (d234_, v234_) := tP_of x234_ e234_ (by decide +kernel)
set_option maxRecDepth 100000 in
theorem s235_ : tP (d235_, v235_) := tP_of x235_ e235_ (by decide +kernel)
set_option maxRecDepth 100000 in
theorem s236_ : tP (d236_, v236_) := tP_of x236_ e236_ (by decide +kernel)
set_option maxRecDepth 100000 in
theorem s237_ : tP (d237_, v237_) := tP_of x237_ e237_ (by decide +kernel)
set_option maxRecDepth 100000 in
theorem s238_ : tP (d238_, v238_) := tP_of x238_ e238_ (by decide +kernel)
set_option maxRecDepth 100000 in
theorem tZip : tMth.zip uBds = [(d0_, v0_), (d1_, v1_), (d2_, v2_), (d3_, v3_), (d4_, v4_), (d5_, v5_), (d6_, v6_), (d7_, v7_), (d8_, v8_), (d9_, v9_), (d10_, v10_), (d11_, v11_), (d12_, v12_), (d13_, v13_), (d14_, v14_), (d15_, v15_), (d16_, v16_), (d17_, v17_), (d18_, v18_), (d19_, v19_), (d20_, v20_), (d21_, v21_), (d22_, v22_), (d23_, v23_), (d24_, v24_), (d25_, v25_), (d26_, v26_), (d27_, v27_), (d28_, v28_), (d29_, v29_), (d30_, v30_), (d31_, v31_), (d32_, v32_), (d33_, v33_), (d34_, v34_), (d35_, v35_), (d36_, v36_), (d37_, v37_), (d38_, v38_), (d39_, v39_), (d40_, v40_), (d41_, v41_), (d42_, v42_), (d43_, v43_), (d44_, v44_), (d45_, v45_), (d46_, v46_), (d47_, v47_), (d48_, v48_), (d49_, v49_), (d50_, v50_), (d51_, v51_), (d52_, v52_), (d53_, v53_), (d54_, v54_), (d55_, v55_), (d56_, v56_), (d57_, v57_), (d58_, v58_), (d59_, v59_), (d60_, v60_), (d61_, v61_), (d62_, v62_), (d63_, v63_), (d64_, v64_), (d65_, v65_), (d66_, v66_), (d67_, v67_), (d68_, v68_), (d69_, v69_), (d70_, v70_), (d71_, v71_), (d72_, v72_), (d73_, v73_), (d74_, v74_), (d75_, v75_), (d76_, v76_), (d77_, v77_), (d78_, v78_), (d79_, v79_), (d80_, v80_), (d81_, v81_), (d82_, v82_), (d83_, v83_), (d84_, v84_), (d85_, v85_), (d86_, v86_), (d87_, v87_), (d88_, v88_), (d89_, v89_), (d90_, v90_), (d91_, v91_), (d92_, v92_), (d93_, v93_), (d94_, v94_), (d95_, v95_), (d96_, v96_), (d97_, v97_), (d98_, v98_), (d99_, v99_), (d100_, v100_), (d101_, v101_), (d102_, v102_), (d103_, v103_), (d104_, v104_), (d105_, v105_), (d106_, v106_), (d107_, v107_), (d108_, v108_), (d109_, v109_), (d110_, v110_), (d111_, v111_), (d112_, v112_), (d113_, v113_), (d114_, v114_), (d115_, v115_), (d116_, v116_), (d117_, v117_), (d118_, v118_), (d119_, v119_), (d120_, v120_), (d121_, v121_), (d122_, v122_), (d123_, v123_), (d124_, v124_), (d125_, v125_), (d126_, v126_), (d127_, v127_), (d128_, v128_), (d129_, v129_), (d130_, v130_), (d131_, v131_), (d132_, v132_), (d133_, v133_), (d134_, v134_), (d135_, v135_), (d136_, v136_), (d137_, v137_), (d138_, v138_), (d139_, v139_), (d140_, v140_), (d141_, v141_), (d142_, v142_), (d143_, v143_), (d144_, v144_), (d145_, v145_), (d146_, v146_), (d147_, v147_), (d148_, v148_), (d149_, v149_), (d150_, v150_), (d151_, v151_), (d152_, v152_), (d153_, v153_), (d154_, v154_), (d155_, v155_), (d156_, v156_), (d157_, v157_), (d158_, v158_), (d159_, v159_), (d160_, v160_), (d161_, v161_), (d162_, v162_), (d163_, v163_), (d164_, v164_), (d165_, v165_), (d166_, v166_), (d167_, v167_), (d168_, v168_), (d169_, v169_), (d170_, v170_), (d171_, v171_), (d172_, v172_), (d173_, v173_), (d174_, v174_), (d175_, v175_), (d176_, v176_), (d177_, v177_), (d178_, v178_), (d179_, v179_), (d180_, v180_), (d181_, v181_), (d182_, v182_), (d183_, v183_), (d184_, v184_), (d185_, v185_), (d186_, v186_), (d187_, v187_), (d188_, v188_), (d189_, v189_), (d190_, v190_), (d191_, v191_), (d192_, v192_), (d193_, v193_), (d194_, v194_), (d195_, v195_), (d196_, v196_), (d197_, v197_), (d198_, v198_), (d199_, v199_), (d200_, v200_), (d201_, v201_), (d202_, v202_), (d203_, v203_), (d204_, v204_), (d205_, v205_), (d206_, v206_), (d207_, v207_), (d208_, v208_), (d209_, v209_), (d210_, v210_), (d211_, v211_), (d212_, v212_), (d213_, v213_), (d214_, v214_), (d215_, v215_), (d216_, v216_), (d217_, v217_), (d218_, v218_), (d219_, v219_), (d220_, v220_), (d221_, v221_), (d222_, v222_), (d223_, v223_), (d224_, v224_), (d225_, v225_), (d226_, v226_), (d227_, v227_), (d228_, v228_), (d229_, v229_), (d230_, v230_), (d231_, v231_), (d232_, v232_), (d233_, v233_), (d234_, v234_), (d235_, v235_), (d236_, v236_), (d237_, v237_), (d238_, v238_)] := rfl
set_option maxRecDepth 100000 in
theorem tSg {kd : List aKd} (hkt : aKt kd tTA) : ∀ (k : Nat) (d : aMd) (Bd : aBd), tMth[k]? = some d → uBds[k]? = some Bd → aSg vwCl tTA tTy kd tNw tNc tAo tW0 tMth uMx tXn d Bd ∧ plainFor d.1 = true ∧ uMx.getD k 0 = d.2.2.1 := by
  intro k d Bd hd hB
  have hz : (d, Bd) ∈ tMth.zip uBds := List.mem_of_getElem? (i := k) (by simp [List.getElem?_zip_eq_some, hd, hB])
  have ha : ∀ q ∈ tMth.zip uBds, tP q := by
    rw [tZip]
    exact List.forall_mem_cons.mpr ⟨s0_, List.forall_mem_cons.mpr ⟨s1_, List.forall_mem_cons.mpr ⟨s2_, List.forall_mem_cons.mpr ⟨s3_, List.forall_mem_cons.mpr ⟨s4_, List.forall_mem_cons.mpr ⟨s5_, List.forall_mem_cons.mpr ⟨s6_, List.forall_mem_cons.mpr ⟨s7_, List.forall_mem_cons.mpr ⟨s8_, List.forall_mem_cons.mpr ⟨s9_, List.forall_mem_cons.mpr ⟨s10_, List.forall_mem_cons.mpr ⟨s11_, List.forall_mem_cons.mpr ⟨s12_, List.forall_mem_cons.mpr ⟨s13_, List.forall_mem_cons.mpr ⟨s14_, List.forall_mem_cons.mpr ⟨s15_, List.forall_mem_cons.mpr ⟨s16_, List.forall_mem_cons.mpr ⟨s17_, List.forall_mem_cons.mpr ⟨s18_, List.forall_mem_cons.mpr ⟨s19_, List.forall_mem_cons.mpr ⟨s20_, List.forall_mem_cons.mpr ⟨s21_, List.forall_mem_cons.mpr ⟨s22_, List.forall_mem_cons.mpr ⟨s23_, List.forall_mem_cons.mpr ⟨s24_, List.forall_mem_cons.mpr ⟨s25_, List.forall_mem_cons.mpr ⟨s26_, List.forall_mem_cons.mpr ⟨s27_, List.forall_mem_cons.mpr ⟨s28_, List.forall_mem_cons.mpr ⟨s29_, List.forall_mem_cons.mpr ⟨s30_, List.forall_mem_cons.mpr ⟨s31_, List.forall_mem_cons.mpr ⟨s32_, List.forall_mem_cons.mpr ⟨s33_, List.forall_mem_cons.mpr ⟨s34_, List.forall_mem_cons.mpr ⟨s35_, List.forall_mem_cons.mpr ⟨s36_, List.forall_mem_cons.mpr ⟨s37_, List.forall_mem_cons.mpr ⟨s38_, List.forall_mem_cons.mpr ⟨s39_, List.forall_mem_cons.mpr ⟨s40_, List.forall_mem_cons.mpr ⟨s41_, List.forall_mem_cons.mpr ⟨s42_, List.forall_mem_cons.mpr ⟨s43_, List.forall_mem_cons.mpr ⟨s44_, List.forall_mem_cons.mpr ⟨s45_, List.forall_mem_cons.mpr ⟨s46_, List.forall_mem_cons.mpr ⟨s47_, List.forall_mem_cons.mpr ⟨s48_, List.forall_mem_cons.mpr ⟨s49_, List.forall_mem_cons.mpr ⟨s50_, List.forall_mem_cons.mpr ⟨s51_, List.forall_mem_cons.mpr ⟨s52_, List.forall_mem_cons.mpr ⟨s53_, List.forall_mem_cons.mpr ⟨s54_, List.forall_mem_cons.mpr ⟨s55_, List.forall_mem_cons.mpr ⟨s56_, List.forall_mem_cons.mpr ⟨s57_, List.forall_mem_cons.mpr ⟨s58_, List.forall_mem_cons.mpr ⟨s59_, List.forall_mem_cons.mpr ⟨s60_, List.forall_mem_cons.mpr ⟨s61_, List.forall_mem_cons.mpr ⟨s62_, List.forall_mem_cons.mpr ⟨s63_, List.forall_mem_cons.mpr ⟨s64_, List.forall_mem_cons.mpr ⟨s65_, List.forall_mem_cons.mpr ⟨s66_, List.forall_mem_cons.mpr ⟨s67_, List.forall_mem_cons.mpr ⟨s68_, List.forall_mem_cons.mpr ⟨s69_, List.forall_mem_cons.mpr ⟨s70_, List.forall_mem_cons.mpr ⟨s71_, List.forall_mem_cons.mpr ⟨s72_, List.forall_mem_cons.mpr ⟨s73_, List.forall_mem_cons.mpr ⟨s74_, List.forall_mem_cons.mpr ⟨s75_, List.forall_mem_cons.mpr ⟨s76_, List.forall_mem_cons.mpr ⟨s77_, List.forall_mem_cons.mpr ⟨s78_, List.forall_mem_cons.mpr ⟨s79_, List.forall_mem_cons.mpr ⟨s80_, List.forall_mem_cons.mpr ⟨s81_, List.forall_mem_cons.mpr ⟨s82_, List.forall_mem_cons.mpr ⟨s83_, List.forall_mem_cons.mpr ⟨s84_, List.forall_mem_cons.mpr ⟨s85_, List.forall_mem_cons.mpr ⟨s86_, List.forall_mem_cons.mpr ⟨s87_, List.forall_mem_cons.mpr ⟨s88_, List.forall_mem_cons.mpr ⟨s89_, List.forall_mem_cons.mpr ⟨s90_, List.forall_mem_cons.mpr ⟨s91_, List.forall_mem_cons.mpr ⟨s92_, List.forall_mem_cons.mpr ⟨s93_, List.forall_mem_cons.mpr ⟨s94_, List.forall_mem_cons.mpr ⟨s95_, List.forall_mem_cons.mpr ⟨s96_, List.forall_mem_cons.mpr ⟨s97_, List.forall_mem_cons.mpr ⟨s98_, List.forall_mem_cons.mpr ⟨s99_, List.forall_mem_cons.mpr ⟨s100_, List.forall_mem_cons.mpr ⟨s101_, List.forall_mem_cons.mpr ⟨s102_, List.forall_mem_cons.mpr ⟨s103_, List.forall_mem_cons.mpr ⟨s104_, List.forall_mem_cons.mpr ⟨s105_, List.forall_mem_cons.mpr ⟨s106_, List.forall_mem_cons.mpr ⟨s107_, List.forall_mem_cons.mpr ⟨s108_, List.forall_mem_cons.mpr ⟨s109_, List.forall_mem_cons.mpr ⟨s110_, List.forall_mem_cons.mpr ⟨s111_, List.forall_mem_cons.mpr ⟨s112_, List.forall_mem_cons.mpr ⟨s113_, List.forall_mem_cons.mpr ⟨s114_, List.forall_mem_cons.mpr ⟨s115_, List.forall_mem_cons.mpr ⟨s116_, List.forall_mem_cons.mpr ⟨s117_, List.forall_mem_cons.mpr ⟨s118_, List.forall_mem_cons.mpr ⟨s119_, List.forall_mem_cons.mpr ⟨s120_, List.forall_mem_cons.mpr ⟨s121_, List.forall_mem_cons.mpr ⟨s122_, List.forall_mem_cons.mpr ⟨s123_, List.forall_mem_cons.mpr ⟨s124_, List.forall_mem_cons.mpr ⟨s125_, List.forall_mem_cons.mpr ⟨s126_, List.forall_mem_cons.mpr ⟨s127_, List.forall_mem_cons.mpr ⟨s128_, List.forall_mem_cons.mpr ⟨s129_, List.forall_mem_cons.mpr ⟨s130_, List.forall_mem_cons.mpr ⟨s131_, List.forall_mem_cons.mpr ⟨s132_, List.forall_mem_cons.mpr ⟨s133_, List.forall_mem_cons.mpr ⟨s134_, List.forall_mem_cons.mpr ⟨s135_, List.forall_mem_cons.mpr ⟨s136_, List.forall_mem_cons.mpr ⟨s137_, List.forall_mem_cons.mpr ⟨s138_, List.forall_mem_cons.mpr ⟨s139_, List.forall_mem_cons.mpr ⟨s140_, List.forall_mem_cons.mpr ⟨s141_, List.forall_mem_cons.mpr ⟨s142_, List.forall_mem_cons.mpr ⟨s143_, List.forall_mem_cons.mpr ⟨s144_, List.forall_mem_cons.mpr ⟨s145_, List.forall_mem_cons.mpr ⟨s146_, List.forall_mem_cons.mpr ⟨s147_, List.forall_mem_cons.mpr ⟨s148_, List.forall_mem_cons.mpr ⟨s149_, List.forall_mem_cons.mpr ⟨s150_, List.forall_mem_cons.mpr ⟨s151_, List.forall_mem_cons.mpr ⟨s152_, List.forall_mem_cons.mpr ⟨s153_, List.forall_mem_cons.mpr ⟨s154_, List.forall_mem_cons.mpr ⟨s155_, List.forall_mem_cons.mpr ⟨s156_, List.forall_mem_cons.mpr ⟨s157_, List.forall_mem_cons.mpr ⟨s158_, List.forall_mem_cons.mpr ⟨s159_, List.forall_mem_cons.mpr ⟨s160_, List.forall_mem_cons.mpr ⟨s161_, List.forall_mem_cons.mpr ⟨s162_, List.forall_mem_cons.mpr ⟨s163_, List.forall_mem_cons.mpr ⟨s164_, List.forall_mem_cons.mpr ⟨s165_, List.forall_mem_cons.mpr ⟨s166_, List.forall_mem_cons.mpr ⟨s167_, List.forall_mem_cons.mpr ⟨s168_, List.forall_mem_cons.mpr ⟨s169_, List.forall_mem_cons.mpr ⟨s170_, List.forall_mem_cons.mpr ⟨s171_, List.forall_mem_cons.mpr ⟨s172_, List.forall_mem_cons.mpr ⟨s173_, List.forall_mem_cons.mpr ⟨s174_, List.forall_mem_cons.mpr ⟨s175_, List.forall_mem_cons.mpr ⟨s176_, List.forall_mem_cons.mpr ⟨s177_, List.forall_mem_cons.mpr ⟨s178_, List.forall_mem_cons.mpr ⟨s179_, List.forall_mem_cons.mpr ⟨s180_, List.forall_mem_cons.mpr ⟨s181_, List.forall_mem_cons.mpr ⟨s182_, List.forall_mem_cons.mpr ⟨s183_, List.forall_mem_cons.mpr ⟨s184_, List.forall_mem_cons.mpr ⟨s185_, List.forall_mem_cons.mpr ⟨s186_, List.forall_mem_cons.mpr ⟨s187_, List.forall_mem_cons.mpr ⟨s188_, List.forall_mem_cons.mpr ⟨s189_, List.forall_mem_cons.mpr ⟨s190_, List.forall_mem_cons.mpr ⟨s191_, List.forall_mem_cons.mpr ⟨s192_, List.forall_mem_cons.mpr ⟨s193_, List.forall_mem_cons.mpr ⟨s194_, List.forall_mem_cons.mpr ⟨s195_, List.forall_mem_cons.mpr ⟨s196_, List.forall_mem_cons.mpr ⟨s197_, List.forall_mem_cons.mpr ⟨s198_, List.forall_mem_cons.mpr ⟨s199_, List.forall_mem_cons.mpr ⟨s200_, List.forall_mem_cons.mpr ⟨s201_, List.forall_mem_cons.mpr ⟨s202_, List.forall_mem_cons.mpr ⟨s203_, List.forall_mem_cons.mpr ⟨s204_, List.forall_mem_cons.mpr ⟨s205_, List.forall_mem_cons.mpr ⟨s206_, List.forall_mem_cons.mpr ⟨s207_, List.forall_mem_cons.mpr ⟨s208_, List.forall_mem_cons.mpr ⟨s209_, List.forall_mem_cons.mpr ⟨s210_, List.forall_mem_cons.mpr ⟨s211_, List.forall_mem_cons.mpr ⟨s212_, List.forall_mem_cons.mpr ⟨s213_, List.forall_mem_cons.mpr ⟨s214_, List.forall_mem_cons.mpr ⟨s215_, List.forall_mem_cons.mpr ⟨s216_, List.forall_mem_cons.mpr ⟨s217_, List.forall_mem_cons.mpr ⟨s218_, List.forall_mem_cons.mpr ⟨s219_, List.forall_mem_cons.mpr ⟨s220_, List.forall_mem_cons.mpr ⟨s221_, List.forall_mem_cons.mpr ⟨s222_, List.forall_mem_cons.mpr ⟨s223_, List.forall_mem_cons.mpr ⟨s224_, List.forall_mem_cons.mpr ⟨s225_, List.forall_mem_cons.mpr ⟨s226_, List.forall_mem_cons.mpr ⟨s227_, List.forall_mem_cons.mpr ⟨s228_, List.forall_mem_cons.mpr ⟨s229_, List.forall_mem_cons.mpr ⟨s230_, List.forall_mem_cons.mpr ⟨s231_, List.forall_mem_cons.mpr ⟨s232_, List.forall_mem_cons.mpr ⟨s233_, List.forall_mem_cons.mpr ⟨s234_, List.forall_mem_cons.mpr ⟨s235_, List.forall_mem_cons.mpr ⟨s236_, List.forall_mem_cons.mpr ⟨s237_, List.forall_mem_cons.mpr ⟨s238_, fun _ h => by cases h⟩⟩⟩⟩⟩⟩⟩⟩⟩⟩⟩⟩⟩⟩⟩⟩⟩⟩⟩⟩⟩⟩⟩⟩⟩⟩⟩⟩⟩⟩⟩⟩⟩⟩⟩⟩⟩⟩⟩⟩⟩⟩⟩⟩⟩⟩⟩⟩⟩⟩⟩⟩⟩⟩⟩⟩⟩⟩⟩⟩⟩⟩⟩⟩⟩⟩⟩⟩⟩⟩⟩⟩⟩⟩⟩⟩⟩⟩⟩⟩⟩⟩⟩⟩⟩⟩⟩⟩⟩⟩⟩⟩⟩⟩⟩⟩⟩⟩⟩⟩⟩⟩⟩⟩⟩⟩⟩⟩⟩⟩⟩⟩⟩⟩⟩⟩⟩⟩⟩⟩⟩⟩⟩⟩⟩⟩⟩⟩⟩⟩⟩⟩⟩⟩⟩⟩⟩⟩⟩⟩⟩⟩⟩⟩⟩⟩⟩⟩⟩⟩⟩⟩⟩⟩⟩⟩⟩⟩⟩⟩⟩⟩⟩⟩⟩⟩⟩⟩⟩⟩⟩⟩⟩⟩⟩⟩⟩⟩⟩⟩⟩⟩⟩⟩⟩⟩⟩⟩⟩⟩⟩⟩⟩⟩⟩⟩⟩⟩⟩⟩⟩⟩⟩⟩⟩⟩⟩⟩⟩⟩⟩⟩⟩⟩⟩⟩⟩⟩⟩⟩⟩⟩⟩⟩⟩⟩⟩⟩⟩⟩⟩⟩⟩⟩⟩⟩⟩⟩⟩
  obtain ⟨g1, g2⟩ := ha _ hz kd hkt
  refine ⟨g1, g2, ?_⟩
  rw [tLen, List.getD_eq_getElem?_getD, List.getElem?_map, hd]
  rfl

