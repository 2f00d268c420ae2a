/-! Every instruction of every method checked against the words. -/
set_option maxRecDepth 100000 in
theorem km_0 : a_km a_MK md_0 [[], [10041], [], [], [10068], [10042], [], [], [10049], [], [], [10050], []] [] = true := by decide +kernel
set_option maxRecDepth 100000 in
theorem km_1 : a_km a_MK md_1 [[], [10074], [], [], [10104], [10078], [], [], [10068], [10079], [], [], [10104], [10080], [], [], [10104], [10085], []] [] = true := by decide +kernel
set_option maxRecDepth 100000 in
theorem km_2 : a_km a_MK md_2 [[], [10110], [], [], [], [10111, 10104], [10113], []] [] = true := by decide +kernel
set_option maxRecDepth 100000 in
theorem km_3 : a_km a_MK md_3 [[], [10124], [], [], [10104], [10125], []] [] = true := by decide +kernel
set_option maxRecDepth 100000 in
theorem km_4 : a_km a_MK md_4 [[], [10144], [], [], [10104], [10153], [], [], [10228], [10161], [], [], [10104], [10168], [], [], [10104], [10172], [], [], [10104], [10174], [], [], [10104], [10178], []] [] = true := by decide +kernel
set_option maxRecDepth 100000 in
theorem km_5 : a_km a_MK md_5 [[], [10137], [], [], [10138], [10229], [], [], [], [], [], [], [10229], [], [10138, 10140, 10007], [], [10141], [], [], [], []] [] = true := by decide +kernel
set_option maxRecDepth 100000 in
theorem km_6 : a_km a_MK md_6 [[], [20012], [], [], [10104], [20013], [], [], [10104], [20016], [], [], [10228], [20019], [], [], [10104], [20022], [], [], [10104], [20024], [], [], [10104], [20027], [], [], [10104], [20029], [], [], [10104], [20031], [], [], [10104], [20034], [], [], [10104], [20037], [], [], [10104], [20039], [], [], [10104], [20043], []] [] = true := by decide +kernel
set_option maxRecDepth 100000 in
theorem km_7 : a_km a_MK md_7 [[], [20004], [], [20005, 10070, 10003], [], [20006], [20073], [], [20007, 20008, 10009], [], [20009], [20076], [], [20071, 10140, 10007], [], [20072], [20079], [], [20071, 10140, 10007], [], [20072], [20082], []] [] = true := by decide +kernel
set_option maxRecDepth 100000 in
theorem km_8 : a_km a_MK md_8 [[], [], [10042], [], [], [], [], [20157], [10043], [], [], [10046], [], [], [10049], [], [], [10050], []] [] = true := by decide +kernel
set_option maxRecDepth 100000 in
theorem km_9 : a_km a_MK md_9 [[], [30027], [], [30024], [], [30025], [20153], [], [], [30025], []] [] = true := by decide +kernel
set_option maxRecDepth 100000 in
theorem km_10 : a_km a_MK md_10 [[], [10045], [], [], [], [10043], [], [], [10042], [], [], [], [], [], [10042], [], [], [], [], [], [], [], []] [] = true := by decide +kernel
set_option maxRecDepth 100000 in
theorem km_11 : a_km a_MK md_11 [[], [10046], [], [10045], [], []] [] = true := by decide +kernel
set_option maxRecDepth 100000 in
theorem km_12 : a_km a_MK md_12 [[], [], [10046], [10045], [], [10045], [], [10043], [], [], [10042], [], [10045], [], [], [], [], [10042], [], [10045], [], [], [], [], [], [10045], [], [], [10045], [], [], [], [10045], [10046], [], [10045], [], [10043], [], [], [], [10044], [], [], [10042], [], [10045], [], [], [], [], [10042], [], [10045], [], [], [], [], [], [], [], [20168], [10046], [], [], [20172], [], [], [], [], [], [10044], [], [], [10042], [], [10045], [], [], [], [], [10042], [], [10045], [], [], [], [], [], [], [], [20168], [10046], [], [], [20172], [], [], [], [], [], [10044], [], [], [], [10045], [], [], [10046], [], [], [10042], [], [10045], [], [], [], [], [], [], [10044], []] [] = true := by decide +kernel
set_option maxRecDepth 100000 in
theorem km_13 : a_km a_MK md_13 [[], [10044], [], [], [], [], []] [] = true := by decide +kernel
set_option maxRecDepth 100000 in
theorem km_14 : a_km a_MK md_14 [[], [10044], [], [], [], [20172], [], [20189], [], [], [], [], [], [], [], [20189], [], [], [10042], [], [10045], [], [], [], [], [], [20190], [], [], [], [], [], [], []] [] = true := by decide +kernel
set_option maxRecDepth 100000 in
theorem km_15 : a_km a_MK md_15 [[], [], [10049], [], [], [10045], [10050], [], []] [] = true := by decide +kernel
set_option maxRecDepth 100000 in
theorem km_16 : a_km a_MK md_16 [[], [20203], [], [10044], [], [], [], [20172], [], [], [], [], [20204], [], [], [], [], []] [] = true := by decide +kernel
set_option maxRecDepth 100000 in
theorem km_17 : a_km a_MK md_17 [[], [10079], [], [], [], [], [], [], []] [] = true := by decide +kernel
set_option maxRecDepth 100000 in
theorem km_18 : a_km a_MK md_18 [[], [], [], [], [10046], [], [10045], [], [], [], [10042], [], [10045], [], [], [], [], [], []] [] = true := by decide +kernel
set_option maxRecDepth 100000 in
theorem km_19 : a_km a_MK md_19 [[], [10078], [], [], [], [20213], [], [], [], [], [], [], [], [10078], [], [], [], [], [], [], [20214], [], [], [20218], [], [], [], [], [], [], []] [] = true := by decide +kernel
set_option maxRecDepth 100000 in
theorem km_20 : a_km a_MK md_20 [[], [], [], [], [10075], [], [], [], [], [20209], [], [], [], [], [], [], []] [] = true := by decide +kernel
set_option maxRecDepth 100000 in
theorem km_21 : a_km a_MK md_21 [[], [10078], [], [10075], [], [20213], [], [], [], [], [], [10078], [], [10075], [], [], [], [10079], [], [10075], [], [], [], [], [], [], [20218], [], [], [], []] [] = true := by decide +kernel
set_option maxRecDepth 100000 in
theorem km_22 : a_km a_MK md_22 [[], [20203], [], [10044], [], [], [], [], [20204], [], [], [], [10048], [], [10045], [], [], [], [10046], [], [], [], [], [10048], [], [], [10042], [], [], [], [], [], [10048], [], [], [], [10048], [], [], [], [10048], [], [], [], [], [20204], [], [], [], [], []] [] = true := by decide +kernel
set_option maxRecDepth 100000 in
theorem km_23 : a_km a_MK md_23 [[], [20203], [], [10044], [], [], [], [], [20204], [], [], [], [], []] [] = true := by decide +kernel
set_option maxRecDepth 100000 in
theorem km_24 : a_km a_MK md_24 [[], [10075], [], [], [], [], [20195], [], [], [20199], [], [], [], [], [], [20205], [], [], [], [], [20195], [], [], [], [20222], [], [], [], [20226], [], [], [], [], [10080], [], [10075], [], [10047], [], [], [], [10075], [], [], [10075], [], [20230], []] [] = true := by decide +kernel
set_option maxRecDepth 100000 in
theorem km_25 : a_km a_MK md_25 [[], [10082], [], [], [], [], [20195], [], [], [], [], [20226], [], [], [], [], [10085], [], [10082], [], [10047], [], [], [], [10082], [], [], [10082], [], [20230], []] [] = true := by decide +kernel
set_option maxRecDepth 100000 in
theorem km_26 : a_km a_MK md_26 [[], [], [], [20226], [], [], [], [], [], [10047], [10087], [], [20230], []] [] = true := by decide +kernel
set_option maxRecDepth 100000 in
theorem km_27 : a_km a_MK md_27 [[], [], [20185], [], [], [], [20191], [], [], [], [20185], [], [], [], [20235], [], [], [], [20185], [], [], [], [30000], [], [], [], [20195], []] [] = true := by decide +kernel
set_option maxRecDepth 100000 in
theorem km_28 : a_km a_MK md_28 [[], [], [10075], [], [], [10082], [], [], [10087], [], [20164], [], [], [], [], [], [], [20176], [], [], [], [20180], [], [], [], [], [20164], [], [], [], [10075], [], [], [10082], [], [], [], [20195], [], [], [], [], []] [] = true := by decide +kernel
set_option maxRecDepth 100000 in
theorem km_29 : a_km a_MK md_29 [[], [], [10075], [10075], [], [10078], [], [], [10078], [], [], [30012], [], [10079], [], [], [10079], [], [], [30012], [], [10080], [], [], [10080], [], [], [30012], [], [], [10082], [10082], [], [10085], [], [], [10085], [], [], [30012], [], [], [10087], [10087], []] [] = true := by decide +kernel
set_option maxRecDepth 100000 in
theorem km_30 : a_km a_MK md_30 [[], [], [10145], [], [], [10088], [10149], [], [10081], [], [], [10153], [], [], [30019], [], [], [10157], [], [], [10164], [], [], [10181], [], [], [10185], [], [], [10189], [], [], [10191], [], [], [10194], []] [] = true := by decide +kernel
set_option maxRecDepth 100000 in
theorem km_31 : a_km a_MK md_31 [[], [20073], [], [30008], [], [20079], [], [20073], [30015], []] [] = true := by decide +kernel
set_option maxRecDepth 100000 in
theorem km_32 : a_km a_MK md_32 [[], [], [10231], []] [] = true := by decide +kernel
set_option maxRecDepth 100000 in
theorem km_33 : a_km a_MK md_33 [[], [20149], [], [30028], [], [30027], [20160], [], [], [], [], [30032], [], [30028], [30004], [], [30031], [30020], [], [], [30038], [], [30033], [10077], []] [] = true := by decide +kernel
set_option maxRecDepth 100000 in
theorem km_34 : a_km a_MK md_34 [[], [10033], [], [], [10068], [30024], [], [], [10068], [30026], [], [10036, 10037, 10002], [], [10038], [30027], [], [10069, 10070, 10003], [], [10071], [30028], [], [10105, 10106, 10004], [], [10107], [30029], [], [10119, 10120, 10005], [], [10121], [30030], [], [10132, 10133, 10006], [], [10134], [30031], [], [10239, 20000, 10008], [], [20001], [30032], [], [], [30032], [20074], [30033], [], [], [30032], [20077], [30034], [], [], [30032], [20080], [30035], [], [20092, 20008, 10009], [], [20093], [30036], [], [20094, 10140, 10007], [], [20095], [30037], [], [], [], [], [20097], [], [], [], [], [], [30024], [], [], [], [20107], [], [], [], [], [], [], [30025], [], [], [], [20145], [], []] [] = true := by decide +kernel
set_option maxRecDepth 100000 in
theorem km_35 : a_km a_MK md_35 [[], [30078], [], [], [10104], [30080], [], [], [10104], [30081], [], [], [10104], [30082], [], [], [10104], [30083], [], [], [10104], [30084], [], [], [10104], [30085], [], [], [10104], [30086], [], [], [10104], [30087], [], [], [10104], [30088], [], [], [10104], [30089], [], [], [10104], [30090], [], [], [10104], [30091], [], [], [10228], [30092], [], [], [10228], [30093], [], [], [10104], [30094], [], [], [10104], [30095], [], [], [10104], [30096], [], [], [10104], [30097], [], [], [], [30079, 10104], [30098], [], [], [10104], [30099], [], [], [10104], [30100], [], [], [10104], [30101], []] [] = true := by decide +kernel
set_option maxRecDepth 100000 in
theorem km_36 : a_km a_MK md_36 [[], [], [], [], [], [], [], [], [], [], [], [], [], []] [] = true := by decide +kernel
set_option maxRecDepth 100000 in
theorem km_37 : a_km a_MK md_37 [[], [], [], [], [], [], [], [], [], []] [] = true := by decide +kernel
set_option maxRecDepth 100000 in
theorem km_38 : a_km a_MK md_38 [[], [], [], [], [], [30025], [], [], [], [30024], [], [30025], [], [], [], [], [], [], [], [30025], [], [], [30025], [], [], []] [] = true := by decide +kernel
set_option maxRecDepth 100000 in
theorem km_39 : a_km a_MK md_39 [[], [30025], [], [], [], [], [], [], [], [], [30195], [], [], [30195], [], [], [30195], [], [], [30195], [], [], [30195], [], [30025], []] [] = true := by decide +kernel
set_option maxRecDepth 100000 in
theorem km_40 : a_km a_MK md_40 [[], [], [], [], [30025], [], [], [], [], [], [30025], [], []] [] = true := by decide +kernel
set_option maxRecDepth 100000 in
theorem km_41 : a_km a_MK md_41 [[], [], [], [], [30189], [], [], [10104], [], [], [], [], [], [], [], [], [], [], [], [], [], [], [], [], [], [], [], [], [], [30189], [], [], [], [], [], [30190], [], [], [], [], [], [], [], [], [], [], [], [], [], [], [], [], [], [], [], [], [], [], [30191], [], [], [], [], [], [30189], [30199], [], []] [] = true := by decide +kernel
set_option maxRecDepth 100000 in
theorem km_42 : a_km a_MK md_42 [[], [30035], [10148], []] [] = true := by decide +kernel
set_option maxRecDepth 100000 in
theorem km_43 : a_km a_MK md_43 [[], [30035], [10151], []] [] = true := by decide +kernel
set_option maxRecDepth 100000 in
theorem km_44 : a_km a_MK md_44 [[], [30035], [10160], []] [] = true := by decide +kernel
set_option maxRecDepth 100000 in
theorem km_45 : a_km a_MK md_45 [[], [30035], [10167], []] [] = true := by decide +kernel
set_option maxRecDepth 100000 in
theorem km_46 : a_km a_MK md_46 [[], [30035], [10190], []] [] = true := by decide +kernel
set_option maxRecDepth 100000 in
theorem km_47 : a_km a_MK md_47 [[], [30035], [10193], []] [] = true := by decide +kernel
set_option maxRecDepth 100000 in
theorem km_48 : a_km a_MK md_48 [[], [30035], [10196], []] [] = true := by decide +kernel
set_option maxRecDepth 100000 in
theorem km_49 : a_km a_MK md_49 [[], [30035], [10188], [], [30035], [10184], [], [], [30035], [10180], [], [30035], [10188], [], [], [], []] [] = true := by decide +kernel
set_option maxRecDepth 100000 in
theorem km_50 : a_km a_MK md_50 [[], [], [], [], [], []] [] = true := by decide +kernel
set_option maxRecDepth 100000 in
theorem km_51 : a_km a_MK md_51 [[], [], [30033], [10077], [40175], []] [] = true := by decide +kernel
set_option maxRecDepth 100000 in
theorem km_52 : a_km a_MK md_52 [[], [], [40227], [], [30035], [10156], [], [], []] [] = true := by decide +kernel
set_option maxRecDepth 100000 in
theorem km_53 : a_km a_MK md_53 [[], [], [30035], [10160], [40175], []] [] = true := by decide +kernel
set_option maxRecDepth 100000 in
theorem km_54 : a_km a_MK md_54 [[], [], [], [], [], [], [], []] [] = true := by decide +kernel
set_option maxRecDepth 100000 in
theorem km_55 : a_km a_MK md_55 [[], [], [], [], [], [], [], [], [], [], [], [], [], [], [], [], [], []] [] = true := by decide +kernel
set_option maxRecDepth 100000 in
theorem km_56 : a_km a_MK md_56 [[], [20019], [], [], [], [], [20027], [], [], [], [20029], [], [], [40093], [], [], [20027], [], [], [], [20029], [], [], [], [20037], [], [], [40096], []] [] = true := by decide +kernel
set_option maxRecDepth 100000 in
theorem km_57 : a_km a_MK md_57 [[], [], [40171], [], [30034], [], [50090], []] [] = true := by decide +kernel
set_option maxRecDepth 100000 in
theorem km_58 : a_km a_MK md_58 [[], [20024], [], [], [], [20027], [], [], [], []] [] = true := by decide +kernel
set_option maxRecDepth 100000 in
theorem km_59 : a_km a_MK md_59 [[], [10162], [], [], [], [], [10146], [], [20076], [], [40081], [], [], [], [], []] [] = true := by decide +kernel
set_option maxRecDepth 100000 in
theorem km_60 : a_km a_MK md_60 [[], [], [40171], [], [30032], [], [30035], [], [50095], []] [] = true := by decide +kernel
set_option maxRecDepth 100000 in
theorem km_61 : a_km a_MK md_61 [[], [30092], [], [], [], [], [30106], [], [30085], [], [], [], [30086], [], [], [], [], [], [], [], []] [] = true := by decide +kernel
set_option maxRecDepth 100000 in
theorem km_62 : a_km a_MK md_62 [[], [], [40171], [], [30035], [10163], [], [], []] [] = true := by decide +kernel
set_option maxRecDepth 100000 in
theorem km_63 : a_km a_MK md_63 [[], [20027], [], [], [], [], [], [], [20029], [], [], [], [], [], [], [], [], []] [] = true := by decide +kernel
set_option maxRecDepth 100000 in
theorem km_64 : a_km a_MK md_64 [[], [], [], [20037], [], [], [], [40132], [], [], [20029], [], [], [], [20029], [], [], [], [], [], [], [40123], []] [] = true := by decide +kernel
set_option maxRecDepth 100000 in
theorem km_65 : a_km a_MK md_65 [[], [], [], [40122], [40123], [], [], [], [], [], [], [20024], [], [], [], [], [], [], [], [20013], [], [], [], [20031], [], [], [], [], [20013], [], [], [], [20034], [], [], [], [], [], [], [20016], [], [], [], [], [], [], [], [20019], [], [], [], [], [], [], [40124], [], [], [], [], [40128], []] [] = true := by decide +kernel
