/-! ===== the code is as the tables say ===== -/
set_option maxRecDepth 100000 in
theorem e0_ : ∀ z ∈ v0_.2.1, decode d0_.2.1 z.1 = .ok (z.2.1, z.2.2) := dx_all (by decide +kernel)
set_option maxRecDepth 100000 in
theorem e1_ : ∀ z ∈ v1_.2.1, decode d1_.2.1 z.1 = .ok (z.2.1, z.2.2) := dx_all (by decide +kernel)
set_option maxRecDepth 100000 in
theorem e2_ : ∀ z ∈ v2_.2.1, decode d2_.2.1 z.1 = .ok (z.2.1, z.2.2) := dx_all (by decide +kernel)
set_option maxRecDepth 100000 in
theorem e3_ : ∀ z ∈ v3_.2.1, decode d3_.2.1 z.1 = .ok (z.2.1, z.2.2) := dx_all (by decide +kernel)
set_option maxRecDepth 100000 in
theorem e4_ : ∀ z ∈ v4_.2.1, decode d4_.2.1 z.1 = .ok (z.2.1, z.2.2) := dx_all (by decide +kernel)
set_option maxRecDepth 100000 in
theorem e5_ : ∀ z ∈ v5_.2.1, decode d5_.2.1 z.1 = .ok (z.2.1, z.2.2) := dx_all (by decide +kernel)
set_option maxRecDepth 100000 in
theorem e6_ : ∀ z ∈ v6_.2.1, decode d6_.2.1 z.1 = .ok (z.2.1, z.2.2) := dx_all (by decide +kernel)
set_option maxRecDepth 100000 in
theorem e7_ : ∀ z ∈ v7_.2.1, decode d7_.2.1 z.1 = .ok (z.2.1, z.2.2) := dx_all (by decide +kernel)
set_option maxRecDepth 100000 in
theorem e8_ : ∀ z ∈ v8_.2.1, decode d8_.2.1 z.1 = .ok (z.2.1, z.2.2) := dx_all (by decide +kernel)
set_option maxRecDepth 100000 in
theorem e9_ : ∀ z ∈ v9_.2.1, decode d9_.2.1 z.1 = .ok (z.2.1, z.2.2) := dx_all (by decide +kernel)
set_option maxRecDepth 100000 in
theorem e10_ : ∀ z ∈ v10_.2.1, decode d10_.2.1 z.1 = .ok (z.2.1, z.2.2) := dx_all (by decide +kernel)
set_option maxRecDepth 100000 in
theorem e11_ : ∀ z ∈ v11_.2.1, decode d11_.2.1 z.1 = .ok (z.2.1, z.2.2) := dx_all (by decide +kernel)
set_option maxRecDepth 100000 in
theorem e12_ : ∀ z ∈ v12_.2.1, decode d12_.2.1 z.1 = .ok (z.2.1, z.2.2) := dx_all (by decide +kernel)
set_option maxRecDepth 100000 in
theorem e13_ : ∀ z ∈ v13_.2.1, decode d13_.2.1 z.1 = .ok (z.2.1, z.2.2) := dx_all (by decide +kernel)
set_option maxRecDepth 100000 in
theorem e14_ : ∀ z ∈ v14_.2.1, decode d14_.2.1 z.1 = .ok (z.2.1, z.2.2) := dx_all (by decide +kernel)
set_option maxRecDepth 100000 in
theorem e15_ : ∀ z ∈ v15_.2.1, decode d15_.2.1 z.1 = .ok (z.2.1, z.2.2) := dx_all (by decide +kernel)
set_option maxRecDepth 100000 in
theorem e16_ : ∀ z ∈ v16_.2.1, decode d16_.2.1 z.1 = .ok (z.2.1, z.2.2) := dx_all (by decide +kernel)
set_option maxRecDepth 100000 in
theorem e17_ : ∀ z ∈ v17_.2.1, decode d17_.2.1 z.1 = .ok (z.2.1, z.2.2) := dx_all (by decide +kernel)
set_option maxRecDepth 100000 in
theorem e18_ : ∀ z ∈ v18_.2.1, decode d18_.2.1 z.1 = .ok (z.2.1, z.2.2) := dx_all (by decide +kernel)
set_option maxRecDepth 100000 in
theorem e19_ : ∀ z ∈ v19_.2.1, decode d19_.2.1 z.1 = .ok (z.2.1, z.2.2) := dx_all (by decide +kernel)
set_option maxRecDepth 100000 in
theorem e20_ : ∀ z ∈ v20_.2.1, decode d20_.2.1 z.1 = .ok (z.2.1, z.2.2) := dx_all (by decide +kernel)
set_option maxRecDepth 100000 in
theorem e21_ : ∀ z ∈ v21_.2.1, decode d21_.2.1 z.1 = .ok (z.2.1, z.2.2) := dx_all (by decide +kernel)
set_option maxRecDepth 100000 in
theorem e22_ : ∀ z ∈ v22_.2.1, decode d22_.2.1 z.1 = .ok (z.2.1, z.2.2) := dx_all (by decide +kernel)
set_option maxRecDepth 100000 in
theorem e23_ : ∀ z ∈ v23_.2.1, decode d23_.2.1 z.1 = .ok (z.2.1, z.2.2) := dx_all (by decide +kernel)
set_option maxRecDepth 100000 in
theorem e24_ : ∀ z ∈ v24_.2.1, decode d24_.2.1 z.1 = .ok (z.2.1, z.2.2) := dx_all (by decide +kernel)
set_option maxRecDepth 100000 in
theorem e25_ : ∀ z ∈ v25_.2.1, decode d25_.2.1 z.1 = .ok (z.2.1, z.2.2) := dx_all (by decide +kernel)
set_option maxRecDepth 100000 in
theorem e26_ : ∀ z ∈ v26_.2.1, decode d26_.2.1 z.1 = .ok (z.2.1, z.2.2) := dx_all (by decide +kernel)
set_option maxRecDepth 100000 in
theorem e27_ : ∀ z ∈ v27_.2.1, decode d27_.2.1 z.1 = .ok (z.2.1, z.2.2) := dx_all (by decide +kernel)
set_option maxRecDepth 100000 in
theorem e28_ : ∀ z ∈ v28_.2.1, decode d28_.2.1 z.1 = .ok (z.2.1, z.2.2) := dx_all (by decide +kernel)
set_option maxRecDepth 100000 in
theorem e29_ : ∀ z ∈ v29_.2.1, decode d29_.2.1 z.1 = .ok (z.2.1, z.2.2) := dx_all (by decide +kernel)
set_option maxRecDepth 100000 in
theorem e30_ : ∀ z ∈ v30_.2.1, decode d30_.2.1 z.1 = .ok (z.2.1, z.2.2) := dx_all (by decide +kernel)
set_option maxRecDepth 100000 in
theorem e31_ : ∀ z ∈ v31_.2.1, decode d31_.2.1 z.1 = .ok (z.2.1, z.2.2) := dx_all (by decide +kernel)
set_option maxRecDepth 100000 in
theorem e32_ : ∀ z ∈ v32_.2.1, decode d32_.2.1 z.1 = .ok (z.2.1, z.2.2) := dx_all (by decide +kernel)
set_option maxRecDepth 100000 in
theorem e33_ : ∀ z ∈ v33_.2.1, decode d33_.2.1 z.1 = .ok (z.2.1, z.2.2) := dx_all (by decide +kernel)
set_option maxRecDepth 100000 in
theorem e34_ : ∀ z ∈ v34_.2.1, decode d34_.2.1 z.1 = .ok (z.2.1, z.2.2) := dx_all (by decide +kernel)
set_option maxRecDepth 100000 in
theorem e35_ : ∀ z ∈ v35_.2.1, decode d35_.2.1 z.1 = .ok (z.2.1, z.2.2) := dx_all (by decide +kernel)
set_option maxRecDepth 100000 in
theorem e36_ : ∀ z ∈ v36_.2.1, decode d36_.2.1 z.1 = .ok (z.2.1, z.2.2) := dx_all (by decide +kernel)
set_option maxRecDepth 100000 in
theorem e37_ : ∀ z ∈ v37_.2.1, decode d37_.2.1 z.1 = .ok (z.2.1, z.2.2) := dx_all (by decide +kernel)
set_option maxRecDepth 100000 in
theorem e38_ : ∀ z ∈ v38_.2.1, decode d38_.2.1 z.1 = .ok (z.2.1, z.2.2) := dx_all (by decide +kernel)
set_option maxRecDepth 100000 in
theorem e39_ : ∀ z ∈ v39_.2.1, decode d39_.2.1 z.1 = .ok (z.2.1, z.2.2) := dx_all (by decide +kernel)
set_option maxRecDepth 100000 in
theorem e40_ : ∀ z ∈ v40_.2.1, decode d40_.2.1 z.1 = .ok (z.2.1, z.2.2) := dx_all (by decide +kernel)
set_option maxRecDepth 100000 in
theorem e41_ : ∀ z ∈ v41_.2.1, decode d41_.2.1 z.1 = .ok (z.2.1, z.2.2) := dx_all (by decide +kernel)
set_option maxRecDepth 100000 in
theorem e42_ : ∀ z ∈ v42_.2.1, decode d42_.2.1 z.1 = .ok (z.2.1, z.2.2) := dx_all (by decide +kernel)
set_option maxRecDepth 100000 in
theorem e43_ : ∀ z ∈ v43_.2.1, decode d43_.2.1 z.1 = .ok (z.2.1, z.2.2) := dx_all (by decide +kernel)
set_option maxRecDepth 100000 in
theorem e44_ : ∀ z ∈ v44_.2.1, decode d44_.2.1 z.1 = .ok (z.2.1, z.2.2) := dx_all (by decide +kernel)
set_option maxRecDepth 100000 in
theorem e45_ : ∀ z ∈ v45_.2.1, decode d45_.2.1 z.1 = .ok (z.2.1, z.2.2) := dx_all (by decide +kernel)
set_option maxRecDepth 100000 in
theorem e46_ : ∀ z ∈ v46_.2.1, decode d46_.2.1 z.1 = .ok (z.2.1, z.2.2) := dx_all (by decide +kernel)
set_option maxRecDepth 100000 in
theorem e47_ : ∀ z ∈ v47_.2.1, decode d47_.2.1 z.1 = .ok (z.2.1, z.2.2) := dx_all (by decide +kernel)
set_option maxRecDepth 100000 in
theorem e48_ : ∀ z ∈ v48_.2.1, decode d48_.2.1 z.1 = .ok (z.2.1, z.2.2) := dx_all (by decide +kernel)
set_option maxRecDepth 100000 in
theorem e49_ : ∀ z ∈ v49_.2.1, decode d49_.2.1 z.1 = .ok (z.2.1, z.2.2) := dx_all (by decide +kernel)
set_option maxRecDepth 100000 in
theorem e50_ : ∀ z ∈ v50_.2.1, decode d50_.2.1 z.1 = .ok (z.2.1, z.2.2) := dx_all (by decide +kernel)
set_option maxRecDepth 100000 in
theorem e51_ : ∀ z ∈ v51_.2.1, decode d51_.2.1 z.1 = .ok (z.2.1, z.2.2) := dx_all (by decide +kernel)
set_option maxRecDepth 100000 in
theorem e52_ : ∀ z ∈ v52_.2.1, decode d52_.2.1 z.1 = .ok (z.2.1, z.2.2) := dx_all (by decide +kernel)
set_option maxRecDepth 100000 in
theorem e53_ : ∀ z ∈ v53_.2.1, decode d53_.2.1 z.1 = .ok (z.2.1, z.2.2) := dx_all (by decide +kernel)
set_option maxRecDepth 100000 in
theorem e54_ : ∀ z ∈ v54_.2.1, decode d54_.2.1 z.1 = .ok (z.2.1, z.2.2) := dx_all (by decide +kernel)
set_option maxRecDepth 100000 in
theorem e55_ : ∀ z ∈ v55_.2.1, decode d55_.2.1 z.1 = .ok (z.2.1, z.2.2) := dx_all (by decide +kernel)
set_option maxRecDepth 100000 in
theorem e56_ : ∀ z ∈ v56_.2.1, decode d56_.2.1 z.1 = .ok (z.2.1, z.2.2) := dx_all (by decide +kernel)
set_option maxRecDepth 100000 in
theorem e57_ : ∀ z ∈ v57_.2.1, decode d57_.2.1 z.1 = .ok (z.2.1, z.2.2) := dx_all (by decide +kernel)
set_option maxRecDepth 100000 in
theorem e58_ : ∀ z ∈ v58_.2.1, decode d58_.2.1 z.1 = .ok (z.2.1, z.2.2) := dx_all (by decide +kernel)
set_option maxRecDepth 100000 in
theorem e59_ : ∀ z ∈ v59_.2.1, decode d59_.2.1 z.1 = .ok (z.2.1, z.2.2) := dx_all (by decide +kernel)
set_option maxRecDepth 100000 in
theorem e60_ : ∀ z ∈ v60_.2.1, decode d60_.2.1 z.1 = .ok (z.2.1, z.2.2) := dx_all (by decide +kernel)
set_option maxRecDepth 100000 in
theorem e61_ : ∀ z ∈ v61_.2.1, decode d61_.2.1 z.1 = .ok (z.2.1, z.2.2) := dx_all (by decide +kernel)
set_option maxRecDepth 100000 in
theorem e62_ : ∀ z ∈ v62_.2.1, decode d62_.2.1 z.1 = .ok (z.2.1, z.2.2) := dx_all (by decide +kernel)
set_option maxRecDepth 100000 in
theorem e63_ : ∀ z ∈ v63_.2.1, decode d63_.2.1 z.1 = .ok (z.2.1, z.2.2) := dx_all (by decide +kernel)
set_option maxRecDepth 100000 in
theorem e64_ : ∀ z ∈ v64_.2.1, decode d64_.2.1 z.1 = .ok (z.2.1, z.2.2) := dx_all (by decide +kernel)
set_option maxRecDepth 100000 in
theorem e65_ : ∀ z ∈ v65_.2.1, decode d65_.2.1 z.1 = .ok (z.2.1, z.2.2) := dx_all (by decide +kernel)
set_option maxRecDepth 100000 in
theorem e66_ : ∀ z ∈ v66_.2.1, decode d66_.2.1 z.1 = .ok (z.2.1, z.2.2) := dx_all (by decide +kernel)
set_option maxRecDepth 100000 in
theorem e67_ : ∀ z ∈ v67_.2.1, decode d67_.2.1 z.1 = .ok (z.2.1, z.2.2) := dx_all (by decide +kernel)
set_option maxRecDepth 100000 in
theorem e68_ : ∀ z ∈ v68_.2.1, decode d68_.2.1 z.1 = .ok (z.2.1, z.2.2) := dx_all (by decide +kernel)
set_option maxRecDepth 100000 in
theorem e69_ : ∀ z ∈ v69_.2.1, decode d69_.2.1 z.1 = .ok (z.2.1, z.2.2) := dx_all (by decide +kernel)
set_option maxRecDepth 100000 in
theorem e70_ : ∀ z ∈ v70_.2.1, decode d70_.2.1 z.1 = .ok (z.2.1, z.2.2) := dx_all (by decide +kernel)
set_option maxRecDepth 100000 in
theorem e71_ : ∀ z ∈ v71_.2.1, decode d71_.2.1 z.1 = .ok (z.2.1, z.2.2) := dx_all (by decide +kernel)
set_option maxRecDepth 100000 in
theorem e72_ : ∀ z ∈ v72_.2.1, decode d72_.2.1 z.1 = .ok (z.2.1, z.2.2) := dx_all (by decide +kernel)
set_option maxRecDepth 100000 in
theorem e73_ : ∀ z ∈ v73_.2.1, decode d73_.2.1 z.1 = .ok (z.2.1, z.2.2) := dx_all (by decide +kernel)
set_option maxRecDepth 100000 in
theorem e74_ : ∀ z ∈ v74_.2.1, decode d74_.2.1 z.1 = .ok (z.2.1, z.2.2) := dx_all (by decide +kernel)
set_option maxRecDepth 100000 in
theorem e75_ : ∀ z ∈ v75_.2.1, decode d75_.2.1 z.1 = .ok (z.2.1, z.2.2) := dx_all (by decide +kernel)
set_option maxRecDepth 100000 in
theorem e76_ : ∀ z ∈ v76_.2.1, decode d76_.2.1 z.1 = .ok (z.2.1, z.2.2) := dx_all (by decide +kernel)
set_option maxRecDepth 100000 in
theorem e77_ : ∀ z ∈ v77_.2.1, decode d77_.2.1 z.1 = .ok (z.2.1, z.2.2) := dx_all (by decide +kernel)
set_option maxRecDepth 100000 in
theorem e78_ : ∀ z ∈ v78_.2.1, decode d78_.2.1 z.1 = .ok (z.2.1, z.2.2) := dx_all (by decide +kernel)
set_option maxRecDepth 100000 in
theorem e79_ : ∀ z ∈ v79_.2.1, decode d79_.2.1 z.1 = .ok (z.2.1, z.2.2) := dx_all (by decide +kernel)
set_option maxRecDepth 100000 in
theorem e80_ : ∀ z ∈ v80_.2.1, decode d80_.2.1 z.1 = .ok (z.2.1, z.2.2) := dx_all (by decide +kernel)
set_option maxRecDepth 100000 in
theorem e81_ : ∀ z ∈ v81_.2.1, decode d81_.2.1 z.1 = .ok (z.2.1, z.2.2) := dx_all (by decide +kernel)
set_option maxRecDepth 100000 in
theorem e82_ : ∀ z ∈ v82_.2.1, decode d82_.2.1 z.1 = .ok (z.2.1, z.2.2) := dx_all (by decide +kernel)
set_option maxRecDepth 100000 in
theorem e83_ : ∀ z ∈ v83_.2.1, decode d83_.2.1 z.1 = .ok (z.2.1, z.2.2) := dx_all (by decide +kernel)
set_option maxRecDepth 100000 in
theorem e84_ : ∀ z ∈ v84_.2.1, decode d84_.2.1 z.1 = .ok (z.2.1, z.2.2) := dx_all (by decide +kernel)
set_option maxRecDepth 100000 in
theorem e85_ : ∀ z ∈ v85_.2.1, decode d85_.2.1 z.1 = .ok (z.2.1, z.2.2) := dx_all (by decide +kernel)
set_option maxRecDepth 100000 in
theorem e86_ : ∀ z ∈ v86_.2.1, decode d86_.2.1 z.1 = .ok (z.2.1, z.2.2) := dx_all (by decide +kernel)
set_option maxRecDepth 100000 in
theorem e87_ : ∀ z ∈ v87_.2.1, decode d87_.2.1 z.1 = .ok (z.2.1, z.2.2) := dx_all (by decide +kernel)
set_option maxRecDepth 100000 in
theorem e88_ : ∀ z ∈ v88_.2.1, decode d88_.2.1 z.1 = .ok (z.2.1, z.2.2) := dx_all (by decide +kernel)
set_option maxRecDepth 100000 in
theorem e89_ : ∀ z ∈ v89_.2.1, decode d89_.2.1 z.1 = .ok (z.2.1, z.2.2) := dx_all (by decide +kernel)
set_option maxRecDepth 100000 in
theorem e90_ : ∀ z ∈ v90_.2.1, decode d90_.2.1 z.1 = .ok (z.2.1, z.2.2) := dx_all (by decide +kernel)
set_option maxRecDepth 100000 in
theorem e91_ : ∀ z ∈ v91_.2.1, decode d91_.2.1 z.1 = .ok (z.2.1, z.2.2) := dx_all (by decide +kernel)
set_option maxRecDepth 100000 in
theorem e92_ : ∀ z ∈ v92_.2.1, decode d92_.2.1 z.1 = .ok (z.2.1, z.2.2) := dx_all (by decide +kernel)
set_option maxRecDepth 100000 in
theorem e93_ : ∀ z ∈ v93_.2.1, decode d93_.2.1 z.1 = .ok (z.2.1, z.2.2) := dx_all (by decide +kernel)
set_option maxRecDepth 100000 in
theorem e94_ : ∀ z ∈ v94_.2.1, decode d94_.2.1 z.1 = .ok (z.2.1, z.2.2) := dx_all (by decide +kernel)
set_option maxRecDepth 100000 in
theorem e95_ : ∀ z ∈ v95_.2.1, decode d95_.2.1 z.1 = .ok (z.2.1, z.2.2) := dx_all (by decide +kernel)
set_option maxRecDepth 100000 in
theorem e96_ : ∀ z ∈ v96_.2.1, decode d96_.2.1 z.1 = .ok (z.2.1, z.2.2) := dx_all (by decide +kernel)
set_option maxRecDepth 100000 in
theorem e97_ : ∀ z ∈ v97_.2.1, decode d97_.2.1 z.1 = .ok (z.2.1, z.2.2) := dx_all (by decide +kernel)
set_option maxRecDepth 100000 in
theorem e98_ : ∀ z ∈ v98_.2.1, decode d98_.2.1 z.1 = .ok (z.2.1, z.2.2) := dx_all (by decide +kernel)
set_option maxRecDepth 100000 in
theorem e99_ : ∀ z ∈ v99_.2.1, decode d99_.2.1 z.1 = .ok (z.2.1, z.2.2) := dx_all (by decide +kernel)
set_option maxRecDepth 100000 in
theorem e100_ : ∀ z ∈ v100_.2.1, decode d100_.2.1 z.1 = .ok (z.2.1, z.2.2) := dx_all (by decide +kernel)
set_option maxRecDepth 100000 in
theorem e101_ : ∀ z ∈ v101_.2.1, decode d101_.2.1 z.1 = .ok (z.2.1, z.2.2) := dx_all (by decide +kernel)
set_option maxRecDepth 100000 in
theorem e102_ : ∀ z ∈ v102_.2.1, decode d102_.2.1 z.1 = .ok (z.2.1, z.2.2) := dx_all (by decide +kernel)
set_option maxRecDepth 100000 in
theorem e103_ : ∀ z ∈ v103_.2.1, decode d103_.2.1 z.1 = .ok (z.2.1, z.2.2) := dx_all (by decide +kernel)
set_option maxRecDepth 100000 in
theorem e104_ : ∀ z ∈ v104_.2.1, decode d104_.2.1 z.1 = .ok (z.2.1, z.2.2) := dx_all (by decide +kernel)
set_option maxRecDepth 100000 in
theorem e105_ : ∀ z ∈ v105_.2.1, decode d105_.2.1 z.1 = .ok (z.2.1, z.2.2) := dx_all (by decide +kernel)
set_option maxRecDepth 100000 in
theorem e106_ : ∀ z ∈ v106_.2.1, decode d106_.2.1 z.1 = .ok (z.2.1, z.2.2) := dx_all (by decide +kernel)
set_option maxRecDepth 100000 in
theorem e107_ : ∀ z ∈ v107_.2.1, decode d107_.2.1 z.1 = .ok (z.2.1, z.2.2) := dx_all (by decide +kernel)
set_option maxRecDepth 100000 in
theorem e108_ : ∀ z ∈ v108_.2.1, decode d108_.2.1 z.1 = .ok (z.2.1, z.2.2) := dx_all (by decide +kernel)
set_option maxRecDepth 100000 in
theorem e109_ : ∀ z ∈ v109_.2.1, decode d109_.2.1 z.1 = .ok (z.2.1, z.2.2) := dx_all (by decide +kernel)
set_option maxRecDepth 100000 in
theorem e110_ : ∀ z ∈ v110_.2.1, decode d110_.2.1 z.1 = .ok (z.2.1, z.2.2) := dx_all (by decide +kernel)
set_option maxRecDepth 100000 in
theorem e111_ : ∀ z ∈ v111_.2.1, decode d111_.2.1 z.1 = .ok (z.2.1, z.2.2) := dx_all (by decide +kernel)
set_option maxRecDepth 100000 in
theorem e112_ : ∀ z ∈ v112_.2.1, decode d112_.2.1 z.1 = .ok (z.2.1, z.2.2) := dx_all (by decide +kernel)
set_option maxRecDepth 100000 in
theorem e113_ : ∀ z ∈ v113_.2.1, decode d113_.2.1 z.1 = .ok (z.2.1, z.2.2) := dx_all (by decide +kernel)
set_option maxRecDepth 100000 in
theorem e114_ : ∀ z ∈ v114_.2.1, decode d114_.2.1 z.1 = .ok (z.2.1, z.2.2) := dx_all (by decide +kernel)
set_option maxRecDepth 100000 in
theorem e115_ : ∀ z ∈ v115_.2.1, decode d115_.2.1 z.1 = .ok (z.2.1, z.2.2) := dx_all (by decide +kernel)
set_option maxRecDepth 100000 in
theorem e116_ : ∀ z ∈ v116_.2.1, decode d116_.2.1 z.1 = .ok (z.2.1, z.2.2) := dx_all (by decide +kernel)
set_option maxRecDepth 100000 in
theorem e117_ : ∀ z ∈ v117_.2.1, decode d117_.2.1 z.1 = .ok (z.2.1, z.2.2) := dx_all (by decide +kernel)
set_option maxRecDepth 100000 in
theorem e118_ : ∀ z ∈ v118_.2.1, decode d118_.2.1 z.1 = .ok (z.2.1, z.2.2) := dx_all (by decide +kernel)
set_option maxRecDepth 100000 in
theorem e119_ : ∀ z ∈ v119_.2.1, decode d119_.2.1 z.1 = .ok (z.2.1, z.2.2) := dx_all (by decide +kernel)
set_option maxRecDepth 100000 in
theorem e120_ : ∀ z ∈ v120_.2.1, decode d120_.2.1 z.1 = .ok (z.2.1, z.2.2) := dx_all (by decide +kernel)
set_option maxRecDepth 100000 in
theorem e121_ : ∀ z ∈ v121_.2.1, decode d121_.2.1 z.1 = .ok (z.2.1, z.2.2) := dx_all (by decide +kernel)
set_option maxRecDepth 100000 in
theorem e122_ : ∀ z ∈ v122_.2.1, decode d122_.2.1 z.1 = .ok (z.2.1, z.2.2) := dx_all (by decide +kernel)
set_option maxRecDepth 100000 in
theorem e123_ : ∀ z ∈ v123_.2.1, decode d123_.2.1 z.1 = .ok (z.2.1, z.2.2) := dx_all (by decide +kernel)
set_option maxRecDepth 100000 in
theorem e124_ : ∀ z ∈ v124_.2.1, decode d124_.2.1 z.1 = .ok (z.2.1, z.2.2) := dx_all (by decide +kernel)
set_option maxRecDepth 100000 in
theorem e125_ : ∀ z ∈ v125_.2.1, decode d125_.2.1 z.1 = .ok (z.2.1, z.2.2) := dx_all (by decide +kernel)
set_option maxRecDepth 100000 in
theorem e126_ : ∀ z ∈ v126_.2.1, decode d126_.2.1 z.1 = .ok (z.2.1, z.2.2) := dx_all (by decide +kernel)
set_option maxRecDepth 100000 in
theorem e127_ : ∀ z ∈ v127_.2.1, decode d127_.2.1 z.1 = .ok (z.2.1, z.2.2) := dx_all (by decide +kernel)
set_option maxRecDepth 100000 in
theorem e128_ : ∀ z ∈ v128_.2.1, decode d128_.2.1 z.1 = .ok (z.2.1, z.2.2) := dx_all (by decide +kernel)
set_option maxRecDepth 100000 in
theorem e129_ : ∀ z ∈ v129_.2.1, decode d129_.2.1 z.1 = .ok (z.2.1, z.2.2) := dx_all (by decide +kernel)
set_option maxRecDepth 100000 in
theorem e130_ : ∀ z ∈ v130_.2.1, decode d130_.2.1 z.1 = .ok (z.2.1, z.2.2) := dx_all (by decide +kernel)
set_option maxRecDepth 100000 in
theorem e131_ : ∀ z ∈ v131_.2.1, decode d131_.2.1 z.1 = .ok (z.2.1, z.2.2) := dx_all (by decide +kernel)
set_option maxRecDepth 100000 in
theorem e132_ : ∀ z ∈ v132_.2.1, decode d132_.2.1 z.1 = .ok (z.2.1, z.2.2) := dx_all (by decide +kernel)
set_option maxRecDepth 100000 in
theorem e133_ : ∀ z ∈ v133_.2.1, decode d133_.2.1 z.1 = .ok (z.2.1, z.2.2) := dx_all (by decide +kernel)
set_option maxRecDepth 100000 in
theorem e134_ : ∀ z ∈ v134_.2.1, decode d134_.2.1 z.1 = .ok (z.2.1, z.2.2) := dx_all (by decide +kernel)
set_option maxRecDepth 100000 in
theorem e135_ : ∀ z ∈ v135_.2.1, decode d135_.2.1 z.1 = .ok (z.2.1, z.2.2) := dx_all (by decide +kernel)
set_option maxRecDepth 100000 in
theorem e136_ : ∀ z ∈ v136_.2.1, decode d136_.2.1 z.1 = .ok (z.2.1, z.2.2) := dx_all (by decide +kernel)
set_option maxRecDepth 100000 in
theorem e137_ : ∀ z ∈ v137_.2.1, decode d137_.2.1 z.1 = .ok (z.2.1, z.2.2) := dx_all (by decide +kernel)
set_option maxRecDepth 100000 in
theorem e138_ : ∀ z ∈ v138_.2.1, decode d138_.2.1 z.1 = .ok (z.2.1, z.2.2) := dx_all (by decide +kernel)
set_option maxRecDepth 100000 in
theorem e139_ : ∀ z ∈ v139_.2.1, decode d139_.2.1 z.1 = .ok (z.2.1, z.2.2) := dx_all (by decide +kernel)
set_option maxRecDepth 100000 in
theorem e140_ : ∀ z ∈ v140_.2.1, decode d140_.2.1 z.1 = .ok (z.2.1, z.2.2) := dx_all (by decide +kernel)
set_option maxRecDepth 100000 in
theorem e141_ : ∀ z ∈ v141_.2.1, decode d141_.2.1 z.1 = .ok (z.2.1, z.2.2) := dx_all (by decide +kernel)
set_option maxRecDepth 100000 in
theorem e142_ : ∀ z ∈ v142_.2.1, decode d142_.2.1 z.1 = .ok (z.2.1, z.2.2) := dx_all (by decide +kernel)
set_option maxRecDepth 100000 in
theorem e143_ : ∀ z ∈ v143_.2.1, decode d143_.2.1 z.1 = .ok (z.2.1, z.2.2) := dx_all (by decide +kernel)
set_option maxRecDepth 100000 in
theorem e144_ : ∀ z ∈ v144_.2.1, decode d144_.2.1 z.1 = .ok (z.2.1, z.2.2) := dx_all (by decide +kernel)
set_option maxRecDepth 100000 in
theorem e145_ : ∀ z ∈ v145_.2.1, decode d145_.2.1 z.1 = .ok (z.2.1, z.2.2) := dx_all (by decide +kernel)
set_option maxRecDepth 100000 in
theorem e146_ : ∀ z ∈ v146_.2.1, decode d146_.2.1 z.1 = .ok (z.2.1, z.2.2) := dx_all (by decide +kernel)
set_option maxRecDepth 100000 in
theorem e147_ : ∀ z ∈ v147_.2.1, decode d147_.2.1 z.1 = .ok (z.2.1, z.2.2) := dx_all (by decide +kernel)
set_option maxRecDepth 100000 in
theorem e148_ : ∀ z ∈ v148_.2.1, decode d148_.2.1 z.1 = .ok (z.2.1, z.2.2) := dx_all (by decide +kernel)
set_option maxRecDepth 100000 in
theorem e149_ : ∀ z ∈ v149_.2.1, decode d149_.2.1 z.1 = .ok (z.2.1, z.2.2) := dx_all (by decide +kernel)
set_option maxRecDepth 100000 in
theorem e150_ : ∀ z ∈ v150_.2.1, decode d150_.2.1 z.1 = .ok (z.2.1, z.2.2) := dx_all (by decide +kernel)
set_option maxRecDepth 100000 in
theorem e151_ : ∀ z ∈ v151_.2.1, decode d151_.2.1 z.1 = .ok (z.2.1, z.2.2) := dx_all (by decide +kernel)
set_option maxRecDepth 100000 in
theorem e152_ : ∀ z ∈ v152_.2.1, decode d152_.2.1 z.1 = .ok (z.2.1, z.2.2) := dx_all (by decide +kernel)
set_option maxRecDepth 100000 in
theorem e153_ : ∀ z ∈ v153_.2.1, decode d153_.2.1 z.1 = .ok (z.2.1, z.2.2) := dx_all (by decide +kernel)
set_option maxRecDepth 100000 in
theorem e154_ : ∀ z ∈ v154_.2.1, decode d154_.2.1 z.1 = .ok (z.2.1, z.2.2) := dx_all (by decide +kernel)
set_option maxRecDepth 100000 in
theorem e155_ : ∀ z ∈ v155_.2.1, decode d155_.2.1 z.1 = .ok (z.2.1, z.2.2) := dx_all (by decide +kernel)
set_option maxRecDepth 100000 in
theorem e156_ : ∀ z ∈ v156_.2.1, decode d156_.2.1 z.1 = .ok (z.2.1, z.2.2) := dx_all (by decide +kernel)
set_option maxRecDepth 100000 in
theorem e157_ : ∀ z ∈ v157_.2.1, decode d157_.2.1 z.1 = .ok (z.2.1, z.2.2) := dx_all (by decide +kernel)
set_option maxRecDepth 100000 in
theorem e158_ : ∀ z ∈ v158_.2.1, decode d158_.2.1 z.1 = .ok (z.2.1, z.2.2) := dx_all (by decide +kernel)
set_option maxRecDepth 100000 in
theorem e159_ : ∀ z ∈ v159_.2.1, decode d159_.2.1 z.1 = .ok (z.2.1, z.2.2) := dx_all (by decide +kernel)
set_option maxRecDepth 100000 in
theorem e160_ : ∀ z ∈ v160_.2.1, decode d160_.2.1 z.1 = .ok (z.2.1, z.2.2) := dx_all (by decide +kernel)
set_option maxRecDepth 100000 in
theorem e161_ : ∀ z ∈ v161_.2.1, decode d161_.2.1 z.1 = .ok (z.2.1, z.2.2) := dx_all (by decide +kernel)
set_option maxRecDepth 100000 in
theorem e162_ : ∀ z ∈ v162_.2.1, decode d162_.2.1 z.1 = .ok (z.2.1, z.2.2) := dx_all (by decide +kernel)
set_option maxRecDepth 100000 in
theorem e163_ : ∀ z ∈ v163_.2.1, decode d163_.2.1 z.1 = .ok (z.2.1, z.2.2) := dx_all (by decide +kernel)
set_option maxRecDepth 100000 in
theorem e164_ : ∀ z ∈ v164_.2.1, decode d164_.2.1 z.1 = .ok (z.2.1, z.2.2) := dx_all (by decide +kernel)
set_option maxRecDepth 100000 in
theorem e165_ : ∀ z ∈ v165_.2.1, decode d165_.2.1 z.1 = .ok (z.2.1, z.2.2) := dx_all (by decide +kernel)
set_option maxRecDepth 100000 in
theorem e166_ : ∀ z ∈ v166_.2.1, decode d166_.2.1 z.1 = .ok (z.2.1, z.2.2) := dx_all (by decide +kernel)
set_option maxRecDepth 100000 in
theorem e167_ : ∀ z ∈ v167_.2.1, decode d167_.2.1 z.1 = .ok (z.2.1, z.2.2) := dx_all (by decide +kernel)
set_option maxRecDepth 100000 in
theorem e168_ : ∀ z ∈ v168_.2.1, decode d168_.2.1 z.1 = .ok (z.2.1, z.2.2) := dx_all (by decide +kernel)
set_option maxRecDepth 100000 in
theorem e169_ : ∀ z ∈ v169_.2.1, decode d169_.2.1 z.1 = .ok (z.2.1, z.2.2) := dx_all (by decide +kernel)
set_option maxRecDepth 100000 in
theorem e170_ : ∀ z ∈ v170_.2.1, decode d170_.2.1 z.1 = .ok (z.2.1, z.2.2) := dx_all (by decide +kernel)
set_option maxRecDepth 100000 in
theorem e171_ : ∀ z ∈ v171_.2.1, decode d171_.2.1 z.1 = .ok (z.2.1, z.2.2) := dx_all (by decide +kernel)
set_option maxRecDepth 100000 in
theorem e172_ : ∀ z ∈ v172_.2.1, decode d172_.2.1 z.1 = .ok (z.2.1, z.2.2) := dx_all (by decide +kernel)
set_option maxRecDepth 100000 in
theorem e173_ : ∀ z ∈ v173_.2.1, decode d173_.2.1 z.1 = .ok (z.2.1, z.2.2) := dx_all (by decide +kernel)
set_option maxRecDepth 100000 in
theorem e174_ : ∀ z ∈ v174_.2.1, decode d174_.2.1 z.1 = .ok (z.2.1, z.2.2) := dx_all (by decide +kernel)
set_option maxRecDepth 100000 in
theorem e175_ : ∀ z ∈ v175_.2.1, decode d175_.2.1 z.1 = .ok (z.2.1, z.2.2) := dx_all (by decide +kernel)
set_option maxRecDepth 100000 in
theorem e176_ : ∀ z ∈ v176_.2.1, decode d176_.2.1 z.1 = .ok (z.2.1, z.2.2) := dx_all (by decide +kernel)
set_option maxRecDepth 100000 in
theorem e177_ : ∀ z ∈ v177_.2.1, decode d177_.2.1 z.1 = .ok (z.2.1, z.2.2) := dx_all (by decide +kernel)
set_option maxRecDepth 100000 in
theorem e178_ : ∀ z ∈ v178_.2.1, decode d178_.2.1 z.1 = .ok (z.2.1, z.2.2) := dx_all (by decide +kernel)
set_option maxRecDepth 100000 in
theorem e179_ : ∀ z ∈ v179_.2.1, decode d179_.2.1 z.1 = .ok (z.2.1, z.2.2) := dx_all (by decide +kernel)
set_option maxRecDepth 100000 in
theorem e180_ : ∀ z ∈ v180_.2.1, decode d180_.2.1 z.1 = .ok (z.2.1, z.2.2) := dx_all (by decide +kernel)
set_option maxRecDepth 100000 in
theorem e181_ : ∀ z ∈ v181_.2.1, decode d181_.2.1 z.1 = .ok (z.2.1, z.2.2) := dx_all (by decide +kernel)
set_option maxRecDepth 100000 in
theorem e182_ : ∀ z ∈ v182_.2.1, decode d182_.2.1 z.1 = .ok (z.2.1, z.2.2) := dx_all (by decide +kernel)
set_option maxRecDepth 100000 in
theorem e183_ : ∀ z ∈ v183_.2.1, decode d183_.2.1 z.1 = .ok (z.2.1, z.2.2) := dx_all (by decide +kernel)
set_option maxRecDepth 100000 in
theorem e184_ : ∀ z ∈ v184_.2.1, decode d184_.2.1 z.1 = .ok (z.2.1, z.2.2) := dx_all (by decide +kernel)
set_option maxRecDepth 100000 in
theorem e185_ : ∀ z ∈ v185_.2.1, decode d185_.2.1 z.1 = .ok (z.2.1, z.2.2) := dx_all (by decide +kernel)
set_option maxRecDepth 100000 in
theorem e186_ : ∀ z ∈ v186_.2.1, decode d186_.2.1 z.1 = .ok (z.2.1, z.2.2) := dx_all (by decide +kernel)
set_option maxRecDepth 100000 in
theorem e187_ : ∀ z ∈ v187_.2.1, decode d187_.2.1 z.1 = .ok (z.2.1, z.2.2) := dx_all (by decide +kernel)
set_option maxRecDepth 100000 in
theorem e188_ : ∀ z ∈ v188_.2.1, decode d188_.2.1 z.1 = .ok (z.2.1, z.2.2) := dx_all (by decide +kernel)
set_option maxRecDepth 100000 in
theorem e189_ : ∀ z ∈ v189_.2.1, decode d189_.2.1 z.1 = .ok (z.2.1, z.2.2) := dx_all (by decide +kernel)
set_option maxRecDepth 100000 in
theorem e190_ : ∀ z ∈ v190_.2.1, decode d190_.2.1 z.1 = .ok (z.2.1, z.2.2) := dx_all (by decide +kernel)
set_option maxRecDepth 100000 in
theorem e191_ : ∀ z ∈ v191_.2.1, decode d191_.2.1 z.1 = .ok (z.2.1, z.2.2) := dx_all (by decide +kernel)
set_option maxRecDepth 100000 in
theorem e192_ : ∀ z ∈ v192_.2.1, decode d192_.2.1 z.1 = .ok (z.2.1, z.2.2) := dx_all (by decide +kernel)
set_option maxRecDepth 100000 in
theorem e193_ : ∀ z ∈ v193_.2.1, decode d193_.2.1 z.1 = .ok (z.2.1, z.2.2) := dx_all (by decide +kernel)
set_option maxRecDepth 100000 in
theorem e194_ : ∀ z ∈ v194_.2.1, decode d194_.2.1 z.1 = .ok (z.2.1, z.2.2) := dx_all (by decide +kernel)
set_option maxRecDepth 100000 in
theorem e195_ : ∀ z ∈ v195_.2.1, decode d195_.2.1 z.1 = .ok (z.2.1, z.2.2) := dx_all (by decide +kernel)
set_option maxRecDepth 100000 in
theorem e196_ : ∀ z ∈ v196_.2.1, decode d196_.2.1 z.1 = .ok (z.2.1, z.2.2) := dx_all (by decide +kernel)
set_option maxRecDepth 100000 in
theorem e197_ : ∀ z ∈ v197_.2.1, decode d197_.2.1 z.1 = .ok (z.2.1, z.2.2) := dx_all (by decide +kernel)
set_option maxRecDepth 100000 in
theorem e198_ : ∀ z ∈ v198_.2.1, decode d198_.2.1 z.1 = .ok (z.2.1, z.2.2) := dx_all (by decide +kernel)
set_option maxRecDepth 100000 in
theorem e199_ : ∀ z ∈ v199_.2.1, decode d199_.2.1 z.1 = .ok (z.2.1, z.2.2) := dx_all (by decide +kernel)
set_option maxRecDepth 100000 in
theorem e200_ : ∀ z ∈ v200_.2.1, decode d200_.2.1 z.1 = .ok (z.2.1, z.2.2) := dx_all (by decide +kernel)
set_option maxRecDepth 100000 in
theorem e201_ : ∀ z ∈ v201_.2.1, decode d201_.2.1 z.1 = .ok (z.2.1, z.2.2) := dx_all (by decide +kernel)
set_option maxRecDepth 100000 in
theorem e202_ : ∀ z ∈ v202_.2.1, decode d202_.2.1 z.1 = .ok (z.2.1, z.2.2) := dx_all (by decide +kernel)
set_option maxRecDepth 100000 in
theorem e203_ : ∀ z ∈ v203_.2.1, decode d203_.2.1 z.1 = .ok (z.2.1, z.2.2) := dx_all (by decide +kernel)
set_option maxRecDepth 100000 in
theorem e204_ : ∀ z ∈ v204_.2.1, decode d204_.2.1 z.1 = .ok (z.2.1, z.2.2) := dx_all (by decide +kernel)
set_option maxRecDepth 100000 in
theorem e205_ : ∀ z ∈ v205_.2.1, decode d205_.2.1 z.1 = .ok (z.2.1, z.2.2) := dx_all (by decide +kernel)
set_option maxRecDepth 100000 in
theorem e206_ : ∀ z ∈ v206_.2.1, decode d206_.2.1 z.1 = .ok (z.2.1, z.2.2) := dx_all (by decide +kernel)
set_option maxRecDepth 100000 in
theorem e207_ : ∀ z ∈ v207_.2.1, decode d207_.2.1 z.1 = .ok (z.2.1, z.2.2) := dx_all (by decide +kernel)
set_option maxRecDepth 100000 in
theorem e208_ : ∀ z ∈ v208_.2.1, decode d208_.2.1 z.1 = .ok (z.2.1, z.2.2) := dx_all (by decide +kernel)
set_option maxRecDepth 100000 in
theorem e209_ : ∀ z ∈ v209_.2.1, decode d209_.2.1 z.1 = .ok (z.2.1, z.2.2) := dx_all (by decide +kernel)
set_option maxRecDepth 100000 in
theorem e210_ : ∀ z ∈ v210_.2.1, decode d210_.2.1 z.1 = .ok (z.2.1, z.2.2) := dx_all (by decide +kernel)
set_option maxRecDepth 100000 in
theorem e211_ : ∀ z ∈ v211_.2.1, decode d211_.2.1 z.1 = .ok (z.2.1, z.2.2) := dx_all (by decide +kernel)
set_option maxRecDepth 100000 in
theorem e212_ : ∀ z ∈ v212_.2.1, decode d212_.2.1 z.1 = .ok (z.2.1, z.2.2) := dx_all (by decide +kernel)
set_option maxRecDepth 100000 in
theorem e213_ : ∀ z ∈ v213_.2.1, decode d213_.2.1 z.1 = .ok (z.2.1, z.2.2) := dx_all (by decide +kernel)
set_option maxRecDepth 100000 in
theorem e214_ : ∀ z ∈ v214_.2.1, decode d214_.2.1 z.1 = .ok (z.2.1, z.2.2) := dx_all (by decide +kernel)
set_option maxRecDepth 100000 in
theorem e215_ : ∀ z ∈ v215_.2.1, decode d215_.2.1 z.1 = .ok (z.2.1, z.2.2) := dx_all (by decide +kernel)
set_option maxRecDepth 100000 in
theorem e216_ : ∀ z ∈ v216_.2.1, decode d216_.2.1 z.1 = .ok (z.2.1, z.2.2) := dx_all (by decide +kernel)
set_option maxRecDepth 100000 in
theorem e217_ : ∀ z ∈ v217_.2.1, decode d217_.2.1 z.1 = .ok (z.2.1, z.2.2) := dx_all (by decide +kernel)
set_option maxRecDepth 100000 in
theorem e218_ : ∀ z ∈ v218_.2.1, decode d218_.2.1 z.1 = .ok (z.2.1, z.2.2) := dx_all (by decide +kernel)
set_option maxRecDepth 100000 in
theorem e219_ : ∀ z ∈ v219_.2.1, decode d219_.2.1 z.1 = .ok (z.2.1, z.2.2) := dx_all (by decide +kernel)
set_option maxRecDepth 100000 in
theorem e220_ : ∀ z ∈ v220_.2.1, decode d220_.2.1 z.1 = .ok (z.2.1, z.2.2) := dx_all (by decide +kernel)
set_option maxRecDepth 100000 in
theorem e221_ : ∀ z ∈ v221_.2.1, decode d221_.2.1 z.1 = .ok (z.2.1, z.2.2) := dx_all (by decide +kernel)
set_option maxRecDepth 100000 in
theorem e222_ : ∀ z ∈ v222_.2.1, decode d222_.2.1 z.1 = .ok (z.2.1, z.2.2) := dx_all (by decide +kernel)
set_option maxRecDepth 100000 in
theorem e223_ : ∀ z ∈ v223_.2.1, decode d223_.2.1 z.1 = .ok (z.2.1, z.2.2) := dx_all (by decide +kernel)
set_option maxRecDepth 100000 in
theorem e224_ : ∀ z ∈ v224_.2.1, decode d224_.2.1 z.1 = .ok (z.2.1, z.2.2) := dx_all (by decide +kernel)
set_option maxRecDepth 100000 in
theorem e225_ : ∀ z ∈ v225_.2.1, decode d225_.2.1 z.1 = .ok (z.2.1, z.2.2) := dx_all (by decide +kernel)
set_option maxRecDepth 100000 in
theorem e226_ : ∀ z ∈ v226_.2.1, decode d226_.2.1 z.1 = .ok (z.2.1, z.2.2) := dx_all (by decide +kernel)
set_option maxRecDepth 100000 in
theorem e227_ : ∀ z ∈ v227_.2.1, decode d227_.2.1 z.1 = .ok (z.2.1, z.2.2) := dx_all (by decide +kernel)
set_option maxRecDepth 100000 in
theorem e228_ : ∀ z ∈ v228_.2.1, decode d228_.2.1 z.1 = .ok (z.2.1, z.2.2) := dx_all (by decide +kernel)
set_option maxRecDepth 100000 in
theorem e229_ : ∀ z ∈ v229_.2.1, decode d229_.2.1 z.1 = .ok (z.2.1, z.2.2) := dx_all (by decide +kernel)
set_option maxRecDepth 100000 in
theorem e230_ : ∀ z ∈ v230_.2.1, decode d230_.2.1 z.1 = .ok (z.2.1, z.2.2) := dx_all (by decide +kernel)
set_option maxRecDepth 100000 in
theorem e231_ : ∀ z ∈ v231_.2.1, decode d231_.2.1 z.1 = .ok (z.2.1, z.2.2) := dx_all (by decide +kernel)
set_option maxRecDepth 100000 in
theorem e232_ : ∀ z ∈ v232_.2.1, decode d232_.2.1 z.1 = .ok (z.2.1, z.2.2) := dx_all (by decide +kernel)
set_option maxRecDepth 100000 in
theorem e233_ : ∀ z ∈ v233_.2.1, decode d233_.2.1 z.1 = .ok (z.2.1, z.2.2) := dx_all (by decide +kernel)
set_option maxRecDepth 100000 in
theorem e234_ : ∀ z ∈ v234_.2.1, decode d234_.2.1 z.1 = .ok (z.2.1, z.2.2) := dx_all (by decide +kernel)
set_option maxRecDepth 100000 in
theorem e235_ : ∀ z ∈ v235_.2.1, decode d235_.2.1 z.1 = .ok (z.2.1, z.2.2) := dx_all (by decide +kernel)
set_option maxRecDepth 100000 in
theorem e236_ : ∀ z ∈ v236_.2.1, decode d236_.2.1 z.1 = .ok (z.2.1, z.2.2) := dx_all (by decide +kernel)
set_option maxRecDepth 100000 in
theorem e237_ : ∀ z ∈ v237_.2.1, decode d237_.2.1 z.1 = .ok (z.2.1, z.2.2) := dx_all (by decide +kernel)
set_option maxRecDepth 100000 in
theorem e238_ : ∀ z ∈ v238_.2.1, decode d238_.2.1 z.1 = .ok (z.2.1, z.2.2) := dx_all (by decide +kernel)
