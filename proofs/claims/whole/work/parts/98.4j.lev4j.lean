/-! the search: level 4 -/
theorem k4_162 : chkC 4 kT4 5 kT5 7921 [0x0, 0x0, 0xf47dd231ce4212306db3d2316ae197516a971231ce8c97525ea9bd224cbb64a2608fbd42646e8b722b96a4a26322efb24ca7f34263b22d622b83334260a28be262d280025ebc8bc22bb61e324bfc1ed24d042d3215535ef22b00add208c06df261cc2d6228dcf9025f800002651dc0024b45b902650980023d701b7264f5400264e100025e574b523c7c25a245ccb5d, 0x0, 0x16bdaca11c9a54461c9a463016621e300f13863006a6e630260b83d6262fbed625ed23d724c7ea4f263c580022b59e4f25ed0cc1263c66d6260b6cc022b5ab39262fb00024c7f7392600ead624a67c0e261f3c002655b6d6227ff00e26352adb261f4ad6227fe3902600dc0026351ddd24a66f902655a80026532ed6265472d62654640025e430b02653200024644b0b, 0x0, 0x177675311d401fb61d4012c0171ae6c00f763ec007099ec025ef94c7263102d6260df4c622b4673f263d9c0024c6b33f260e0bd0263daad625efabd124c6a6492630f40022b45a49260372d624a5380e2621c40026583ed6227eac0e262b0adb2621d2d6227e9f9026036400262afddd24a52b902658300023dfdda42656fad62656ec0025e6b8b623dfce6a2466d30b, 0x0, 0x0, 0x0] 1620 = true := by decide +kernel
theorem g4_162 : ∀ k, 1620 ≤ k → k < 1630 → Good (decG 4 (rpA kT4 (16 * 4) k)) := fun k h1 h2 => chkC_ok good5 k4_162 k h1 h2
theorem k4_163 : chkC 4 kT4 5 kT5 7921 [0x0, 0x1e15232a0f9c3f94174d8f94072f9f941d6eef94174e042026511fd324ce4b2e264c0fd52603d4b622bbff2e261facb021570a3f24b1148a208b463f227a148b228d267a24a33e7b228c8b8a24a2a39424b09c02215686df22799c0c208ac2df26036411264b96dd261f3c1022bb61e92650a6df24cdade924214bcc25ca7ed625caf7d125c2e6d6242a10b221bb77cc, 0x1cd1229a0f3c769a16974f0406cfd69a1cd0bb041697b69a24b4e09021584e4a228fae8024a5c68e208c8a4a2280689e24cf8f342659e4b522bd4334262378be265b28b526065cbc228f138a24a52b9424b468022157cadf227ff00c208c06df2605ec11265ab8002623081022bca5e92659740024cef1e924228fcc25cbc2d625cc3bcb25c42ad62428ccb221bcbbcc, 0x1681c4711cbc74711cbcde6016822e600f2fca6006c32a6025fb0fd624c5624e26196fd7265c83c722b3164e2642489b261958c122b3233825faf8c026425e7d24c56f38265c6cb12618f6e6265c0ad625fa96e724c4dedf2641d00a22b292df25fa88112641c3842618e81022b285e9265bfc0024c4d1e92423d3cc25d216d625d2080025c42f282423bcb221bde8b2, 0x173a8d011d64c9011d6532f0173af6f00f9282f00725e2f0261be0c722b1df3e25fd80c62639828b24c42b3e265db0b725fd97d024c41e48261bf7d1265dc7c122b1d24826396c8d261b7ee6265d4ed625fd1ee724c39adf2638f40a22b14edf25fd10112638e784261b701022b141e9265d400024c38de924265bcc25d35ad625d34c0025c2eb28242644b221bf2cb2, 0x112230121f0923a41f6e601219e24e3618e53812092b44121f7d7e52113ca36418fbdf6409483f641f79a36419d6ceb218c06b171f40a8591ef8931719c6560010f99717090023172661780f265ef0092669100d266c700026668803266b2c002662bc112660340b2669e8002668a4002667600026661c002664d800266394002662500026610c00265fc800265e8400, 0x1b5021b50cf9b97f13c36d7f1b50097f03f7c17f13c385b5267097902671db902671ea3d266f5390266f623d266e0f90267a6d1e2677e51e267ba000267a5c00267918002677d40026755d1e267690002672d51e26754c00267408002672c400266f091e2671911e2671800026703c00266ef800266db4001b4fda800cf98a8013c33e801b4fc24a03f7928013c3264a, 0x1b0a85b50c3d3db5130fcca51bbf7dc303010db5130835b5269a00002698bc0026977800269634002694f0002693ac002692680026912400268fe000268e9c00268d5800268c1400268ad00026898c0026884800268704002685c00026847c00268338002681f4002680b000267f6c00267e2800267ce4001b58b6830cf5a64a13cc1a831b4bf64a03f3ae4a13bf5a4a, 0x1b7d997d0d876b6f1446ff6f1bd4df6f04adf36f144721c326a6b92026a9412026a5752026a2ed2026a7fd2026a4312026a9300026a7ec0026a6a80026a5640026a4200026a2dc0026a06520269ddd20269c9920269f2120269b552026a1a92026a1980026a05400269f1000269dcc00269c8800269b44001b5262820cfc128213c5c6821b524a4a03fa1a8213c5ae4a, 0xd0024a11b57a3d303fe2ca113cb07d313cb1ca11b57b8a126ac209e26aad1eb26ae9deb26ad59eb26ac15eb26aea89e26b269eb26b21d1226b3adeb26b2749e26b3500026b20c0026b125eb26af951226b0c80026afec9e26afe1eb26af840026abc91226ae511226ae400026acfc0026abb80026aa74001b5772780cffde7813cad6781b575a4a03fde67813cabe4a] 1630 = true := by decide +kernel
theorem g4_163 : ∀ k, 1630 ≤ k → k < 1640 → Good (decG 4 (rpA kT4 (16 * 4) k)) := fun k h1 h2 => chkC_ok good5 k4_163 k h1 h2
theorem k4_164 : chkC 4 kT4 5 kT5 7921 [0xd8c7dbd1b84049b04b305bd144d55bd144d74091bd9f1bd26c2912726c0092726c14d2726bd812726bec52726bc3d2726c2800026c13c0026bff80026beb40026bd700026bc2c0026b72d2726b9b52726b4a52726baf92726b5e92726b8712726bae80026b9a40026b8600026b71c0026b5d80026b494001b562e8d0cfe9a8d13c9928d1b56164a03fca28d13c97a4a, 0x1dad73950fb6f54b17b85f951d98d54b074a554b1795d54b254e10072164e64d2349b0092099224d25417739235b773726c79000240c8e3b269af67b25b9ae7b2606e27b26c64c0022f089e324f4e9ed2478ee4321265f9022562e4d206233902685d12624f8c09e26b4940026aa74002304d49e26c508002215cb5d2436c9e123fca7c326c3c4002110f7cb2052bd21, 0x1dbca37d0f5c388f16e7908f1d1fb88f06ef988f16eec53326cde400257cd64c25eaf24c239aa24c267f064c26cca000268a827a25705ea826cb5c00238182a826ca180025f66e7a22f311e324f771ed247b76432128e7902258b64d2064bb902688592624f4f49e26b5d80026abb8002301089e2656124b2209235c243a95e12575be3326c8d40021095fca20568921, 0x1d10855d0f2e465316d4915d1cb5065306c1a653167cde53235a240720a5e27d253d9c092171a67d234d8b39254f633726d2f400259c7a4b25fa224b26d1b000268e364b26d06c0022f1cde324f3a5ed2477aa432128f6492257724d2068879026899d2624f6389e26b71c0026acfc0023024c9e26cf2800220e335f243585e123f287c32653505d210083ce205097ce, 0x1e0c06d50f8fba6b178c19df1d598e6b07231a6b1734626b25f8de4923caba4926d57c002598ae4926d43800268cf249253b14042170627823579c0520a49e782551eb352350133422f455e324f62ded247a3243212a2b902259fa4d206743902687152624f77c9e26b8600026ae40002303909e26589a4b2210bb5a24380de123f797c323dfeea42101c7cc2051dbcc, 0x1c63200d0ef8380d162c3c0d1c6b9dc3068b980d1634b9c326da8c002389027c268bc67c2574127c25f7b27c26d9480025e9ae4a2395924a26d80400257a4e4a26d6c000267dc24a22f599e324f9f9ed2475224321266e492254ea4d2065ff90268ae12624f3b09e26b9a40026ae511222ffc49e265da9a622069b5e243bd9e1256ad32823bb3aa821081bcf20554521, 0x1e2699cd0fbb2417179a04171d9d0417074e841717c365db2699b27925b5e27926de580023feb67926dd140026059e79234728042097de48254b88052163a248235dff352543ff3422f6dde324f8b5ed247666432127a3902253a64d2063779026848d2624fa049e26bae80026abc9122306189e265c65a62218535b243951e125819b2526dbd000210fb3cd20540121, 0xefe750b1c70f50b0691d50b163aedbd163a110b1c71d1bd21676e5b254ccc012540333f235cbb31234af40f209baa5b26df9c002402aa6f2694a28525bc5e6f26008e8526d912d82300fde324e475ed2486da4321307f902248424d20660e4f269b440022539790267ce40026c5191c24844390266db40022148753243e61e1258a772123f1a6a1210aa3bd2057cd21, 0xf2549a51cfd70f306b8a9a51673e1a516c17cf31cac09a52577c65a26de4e8326818e5a26e3680025ed7a5a238dfa5a2686b684257f9c2e26e22400239ff02e26e0e00025f2a284230385e324e6fded2489624321330790224aca4d2068964f269c880022561f90267e2800265c588d2486cb90266ef8002207df5224422de123bc1bc323c18ea021030bbc20531fbc, 0xfd16ac51dc936d30764cac517bcf2c517e20ed31db206c5209f8e8b2358e001234c473f2550a731253ee00f216b528b26e5f00025a4125525fcaa5523d9ea552690be5526e4ac0022ffb9e324e5b9ed24881e43213316492246fe4d2064ca4f269dcc002259eb90267f6c0026cf391c248a979026703c00220cef59243d1de123c26fc323c7e2af20fdfbc8204e0fc8] 1640 = true := by decide +kernel
theorem g4_164 : ∀ k, 1640 ≤ k → k < 1650 → Good (decG 4 (rpA kT4 (16 * 4) k)) := fun k h1 h2 => chkC_ok good5 k4_164 k h1 h2
theorem k4_165 : chkC 4 kT4 5 kT5 7921 [0xfbfb2dd1e3e904b075312dd179e92dd17fcb0591da192dd23d2524f25fb664f26e87800268f7a4f26e7340025a0464f25388bfa216c967e235513fb20a0d27e2554732b23529b2a230241e324e841ed248aa64321344b902249864d2067524f269f10002258a7902680b000265d9c8d2489539026718000220f774c243fa5e123b5c7c323e8ca9a20fb73c2204b87c2, 0xf8802351daad583071b6235172caa351777ca791d51d63523aefa8a26ec440025f15e8a26eb00002685728a258c1e8a25ec36542379f93626c76936256ca13626e9bc0026804a5423060de324e985ed2485964321308e492244764d2062424f26a05400225763902681f40026588b9024880f902671911e22055758244371e1256e9f2e23b4e6ae210593c9205463c9, 0xf5eb2911df3e34306f2129116f63e4d16f1a2911d22329125ae4a7f2695e67f26eecc002601d27f26ed880023f4967f23449ffa209a664e2548fffb21662a4e2360872b2546872a2304c9e324eac9ed248452432131c3902245ba4d2063864f26a198002254db90268338002656039024858790266f091e22170f4d2440e9e1258e431b23f6b69b210d2bc320591121, 0x166522871cdb40711c9d4a8716a166600f168a8706a9ea872684165f26f2980025883a5f26f00b0523a9d25f25f0025f25f52a8926ec277323a2528926f154002583428926893e892680c12624e5c49e26b8712726af840022f1d89e263e6d3c26a1a9202248339026847c0026306b0c2478df902672c400220a6750243441e125726b2226f0100021044fba20503521, 0x167300891cab28891d00ca7816c4d6780f24688906b7c8892542bb3a235f432f2169f65d254a43ff209e325d23486c0a26cefe1d2603168725c02ef126972a87240f56f126f3dc00267e392624e9909e26b5e92726afe1eb22f5a49e26308124269b55202245ab902685c000263bcd4a2476579026740800221adb4e2431b9e123d7f3c323fbc69f210be7b8204dad21, 0x171ddd011d4309011d7ac5f7175a2ef00f793501070c950125f3e68f26fa300023b1828f26f8ec00258fea8f2687fa8f2682d25926f7a8002587407b26f6640023a8d87b25eebe592683492624e4809e26baf92726afec9e22f0949e26445a4b269f21202246ef90268704002646d39024779b9026754c00220bab562432fde123e0cfc326f520002106d7c420517921, 0x172bd60f1dd943fe1d51020f177c5b080f872e0f071a8e0f26f79dab26045a8125b2168126986e8123f9a68126fcb8002545432c2361cb292168b2532547bbf9209cee532345e3fc267cf52624ead49e26b4a52726b0c80022f6e89e263be582269c9920224467902688480026444b90247513902672d51e22199748242f31e123d05bc326fb7400210e6fbe204b2521, 0x1769ce511d84791e1dc12b801761d51e0faa311e073d911e234ecf3a25532f2f20a2168d235657ff216dda8d253c580a26ff40002693465723eba25725ff325725aa665726fdfc002682052624e7089e26b9b52726af951222f31c9e2646e24b269ddd202249779026898c00262f24ba247a23902676900022134354243075e123e9abc323cf7aaa20ff3fc6204ef121, 0x16b113d71ce279061cebc3d716a7c9060f46350606d99506270084002692025123e2c65125fdee5125a7de5126d6b6fb2351572c2555b72920a35a832353cff9216f1e832539cffc267f7d2624e84c9e26b72d2726b125eb22f4609e262f3e1226a06520224abb90268ad000263e579c247b679026755d1e2211ff4a242dede123c8c3c323d7129c20fcb7c0204c6921, 0x1dd4afad0f6df0bf1705f0bf1d353cbf070150bf170be1032539cffc26fdfc002345e3fc25eebe5926f3dc0026893e892546872a26804a5423529b2a26e4ac0025f2a28426d912d822ea35e324ec0ded2471564321252a49224e964d205fab902696452624f26c9e26bc2c0026b20c0022fe809e2651024b243fae0d25dffb0b2669f91725c725762226f70b21d7520d] 1650 = true := by decide +kernel
theorem g4_165 : ∀ k, 1650 ≤ k → k < 1660 → Good (decG 4 (rpA kT4 (16 * 4) k)) := fun k h1 h2 => chkC_ok good5 k4_165 k h1 h2
theorem k4_166 : chkC 4 kT4 5 kT5 7921 [0x0, 0x1e1680fd0f9da5f3175469af1d7055f3073105f3174ef5f32353cff925ff32572547bbf926f6640026972a8726f1540021662a4e256ca13620a0d27e23d9ea55239ff02e25bc5e6f22e8f1e324ed51ed247012432123d790224fda4d205d23902697892624ec189e26beb40026b2749e22f82c9e264d349e2440f20d25e2830b2668b51725d36a0d22297f0b21d8960d, 0x0, 0x0, 0x1c854c3d0f0c783d164e683d1c89fd93069fd83d165319932351572c26ff40002545432c2682d25926cefe1d25f52a8923449ffa25ec365425388bfa26e5f0002686b68426df9c0022ecbde324ee95ed246ece432122a249224c0e4d2060ef902698cd2624f1289e26c2800026b269eb22fd3c9e2701c800243d260d25dd730b2667711725c9ad7422246f0b21d4ca0d, 0xf4555231ce1992306d8b52316acd57516a6e9231ce7857526d6b6fb253c580a26fcb8002687fa8f23486c0a25f0025f2543ff34267dc24a2350133426d06c0025f66e7a26c64c0022f821e324de21ed247f4243212f4a492240aa4d205e764f26a2dc0022510f90268c140027030c002481bb902677d400242df60d25e50b0b2662611725c57e0d22339f0b21c59a0d, 0xf2ac0db1cb180db06be20db16d04545167958db1d0c394525a7de51216dda8d23f9a681258fea8f209e325d23a9d25f235dff3526d6c0002551eb35268e364b26ca18002606e27b22fe75e324e1eded2481ca43212cb3902243324d2060fe4f26a42000224d4390268d58002659d08d247def902679180024344a0d25e3c70b2664e91725cbd20d22325b0b21cbee0d, 0xfde88291e360e730771e82917f72a6517d7fc291de21e6525fdee51235657ff26986e8126f8ec00254a43ff26f00b052163a248257a4e4a20a49e7826d1b000238182a825b9ae7b22f965e324dcdded24808643212df790223f664d205d324f26a56400224e8790268e9c002701d91c247f3390267a5c00242f3a0d25e7a18126611d1725c6c20d22376b0b21c6de0d, 0xfc66ea31e57dfeb0759cea317dc969517aa5ea31dc3be9523e2c65120a2168d25b2168123b1828f2169f65d25883a5f254b880526d8040023579c0525fa224b26cb5c00269af67b22fd31e324e331ed24830e43212f3b902241ee4d205fba4f26a6a800224fcb90268fe0002704500024807790267ba0002431c20d25e51981265e951725c94a0d2238af0b21c9660d, 0xf8afe611e087d6b071e5e61178685d5172fa6611d54d2612692025125532f2f26045a8126fa3000235f432f26f298002097de482395924a21706278259c7a4b25705ea8240c8e3b22fbede324df65ed247dfe43212b6f90223cde4d205aaa4f26a7ec00224bff90269124002650f390247cab902677e51e2433060d25e64f0b2663a51725ca8e0d2234e30b21caaa0d] 1660 = true := by decide +kernel
theorem g4_166 : ∀ k, 1660 ≤ k → k < 1670 → Good (decG 4 (rpA kT4 (16 * 4) k)) := fun k h1 h2 => chkC_ok good5 k4_166 k h1 h2
theorem k4_167 : chkC 4 kT4 5 kT5 7921 [0xfa592a91e1e01b30738f2a917659e05175d36a91d7fdaa927008400234ecf3a26f79dab25f3e68f2542bb3a2684165f2347280425e9ae4a253b140426d2f400268a827a26c7900022faa9e324e0a9ed247cba43212cc249223e224d205bee4f26a930002252539026926800264d29dd2482ff90267a6d1e24307e0d25e7930b265fd91725c8060d2236270b21c8220d, 0x163130591c6814591c615200162a6e000ef66a000689ca0023f4967f258c1e8a25a0464f216b528b238dfa5a209baa5b26059e7926d94800268cf249254f633726cca000235b7737268c252624e0b49e26bc3d2726aea89e22ecc89e26366c9e26a43120223ccf902693ac0026329390246d7b90266e0f90243be20d25dec581265f011e25d0e20d222ac30b21d3860d, 0x1684c6b71cbb3c461c9b8a30166362300f14ca3006a82a3026ed88002685728a26e73400253ee00f25ed7a5a234af40f26dd140025f7b27c26d43800234d8b39267f064c25417739268ead2624e33c9e26bec52726ac15eb22ef509e26408e4b26a7fd20224323902694f000263661dd2473cf90266f623d24358e0d25e14d812666991c25cc356e222c070b21cd320d, 0x16eb49df1df14f861d1a1a9016e1f2900f569a9006e9fa902601d27f26eb0000268f7a4f2550a73126e36800235cbb3123feb6792574127c2598ae492171a67d239aa24c2099224d268d692624df709e26bd812726ad59eb22eb849e2632a24b26a2ed20223e1390269634002637a390246ebf90266f5390243a9e0d25dc3d812661891825cf9e0d222d4b0b21d2420d, 0x173d81311d638fb61d4156c0171c2ac00f7782c0070ae2c026eecc0025f15e8a26e87800234c473f26818e5a2540333f26de5800268bc67c26d57c00253d9c0925eaf24c2349b0092691352624e1f89e26c14d2726ae9deb22ee0c9e2637b24b26a575202241df9026977800262c41dd24728b902671ea3d2438160d25e291812669211225caf168222e8f0b21cfba0d, 0x1654afa71c8104d61c8b93a7164a20d60f0830d6069b90d62695e67f26ec440025fb664f2358e00126de4e83254ccc0125b5e2792389027c23caba4920a5e27d257cd64c2164e64d268ff12624dce89e26c0092726aad1eb22e8fc9e2628809e26a9412022409b902698bc0026407f90247147902671db902436d20d25dd8181266b3d1725cd160d222fd30b21ce760d, 0x170d6a211d2faca61da55350170060a60f6860a606fbc0a625ae4a7f23aefa8a23d2524f209f8e8b2577c65a21676e5b2699b27926da8c0025f8de49235a240726cde400254e10072692792624de2c9e26c2912726ac209e22ea409e262c4c9e26a6b920223f5790269a0000262875dd247003902670979024395a0d25e00981266c811725ce5a0d2231170b21d0fe0d, 0x1304a7c01bbc01711b06f7c00c39afc013116fbf02fd7fc026cdf52226f6751426de2baf26c75cef26eff12f26d8151726d58d2326fe0d1526e7452526e6011026d693d826d3051626eb001426fa300a26d9481226ca180726ec276f26e0e00126eecc1526f79d9826dd141326c64c0626cefe1826d912d8131065891bbb16891b061c3f0c38d43f1303cc3f02fca43f, 0xd84116b1bd1856b04aa996b1443a56b144c790b1b7a23b526cb6d2226f8fd1426e2352426ec551126f1651a26da9d1726f3ed2026de691d26fcc92126c7a11c26ed991f26dfad1e26e9bc1426f7a80a26d6c01226cca00726f2980426e368012700841126e8780f26ff401026e4ac0e26d4380d26d06c0c130ddd971bbc5a9c1b0c704a0c3f284a130a204a0302f84a, 0x270594102706d8112706d810122d1210270594160a9146102706d80d122d120d2705940d2706d80f0a91460d27059413122d120c2706d80c2706d80e2705940c270594120a91460c122d12032706d8030a91460327059405270594032706d8052706d802122d1202270594040a9146022706d80427059402270594012706d8012706d80027059400122d12000a914600] 1670 = true := by decide +kernel
theorem g4_167 : ∀ k, 1670 ≤ k → k < 1680 → Good (decG 4 (rpA kT4 (16 * 4) k)) := fun k h1 h2 => chkC_ok good5 k4_167 k h1 h2
theorem k4_168 : chkC 4 kT4 5 kT5 7921 [0x111fac341f6bdc341f0a636a19e38e1418e2b4340928c0341f0a51c2111f876418e28f6409289b641f6bb76419e385d018e297ef1f0a3c591f6bbfef19e37200111f8fef0928a3ef270ab7d027082fd0270d3fd0270973d0270e83d0270bfbd0270c041427097c14270ac014270d481427083814270e8c14270e7000270d2c00270be800270aa4002709600027081c00, 0x1b82a97d0d8b376f144acb6f1bd8ab6f04b1bf6f144aee3b271391f8271619f827124df8270fc5f82714d5f8271109f8271011d9271665d9271155d9271521d92713ddd9271299d927115fae27101bae27152bae2712a3ae27166fae2713e7ae271608002714c4002713800027123c002710f800270fb4000d8b18de1b82782c1bd88cde144aacde144aa1f504b1a0de, 0xd84e5bd1b80374b04ab6dbd144479bd144497611bd259bd271a2f90271b29ff271c6dff2718a1ff2719e5ff27175dff2722c1ff271e0a6f27217dff271ef5ff272039ff271db1ff2722b00027216c00271dfb9027202800271ee400271da000271a3e6f271c5c00271b18002719d4002718900027174c000d84c4de1b7ff02c1bd238de144458de14444e0204ab4cde, 0x1da9a7950fa45ca7175c00a71d7ea4a70737bca71768454b26f8c30d2505edf426123df4231201f426bbe0e127133022269ec022256dd6902720bd67237b2e9026c89e90260828dc23afa5e325aef5ed24ff167321948a792319167d20cc83902700117c25ab33ae27174c0026a997ae23ec6fae2616ca7b264ac660266049d62217df45270aab0b25940fbd22132572, 0x1dca8f7d0fe1177d17e3677d1dca31330774777d17e3093325b344af2197a0db23b2b0b120cf9df525022ce1231c2cdf2719256623db442326a79c2325a56c2326189cdd26e5c84623b22de325b2c1ed25019e7321971279231b9e7d20cf0b9026e57d9425a4dfae2718900026a70fae23dab7ae26180e7b264f6e4b266775c9221a6745270bef0b259697bd221abd73, 0x1e0ee95d0f8c51f71730f9f71d5625f7071fb1f7178cfa532622b1f1232275f126fa14db251661f12715596926c234df2571b1962198e4d724014eed20c588d6250c4cdd2307ecdc23a0d3a925be24e524fdd27321934679231a5a7d20d2d7902701560c25997bae2719d40026a343ae23cb87ae261d1e7b265769f72668b9c922169b45270d330b25b059f7220b8d74, 0xf2b9da51d0f28f306befda5167a35a516d334f31cb25da521965ce525bd8ae92500e8e7231d70d923a380b720d22603271bad602407ba5726a5142d259dd42d261b24d326d17ac023fa51e3259095ed250f8a73219eaa79230db27d20cb4e7f2710f80023209f9026cc170a2620db9025148b9026bdda6d26546fbd26669dd12209f345270e81ef25ac1bbd22146965, 0x1e4f740d0fe62bff17fdffff1de527ff07798bff17fd9dc326a6582125a1a021271cf16823d3ac2126e99f8b261c68df2382d59620d0e1f025badcad21914cd6231860dd24fbd8dc2382731925ba59ed24fb4a732190be792317d27d20d04f9026e94b5c25a113ae271c5c0026a5cbae23d31fae261bda7b26490bbd2669fdc9221923452709670b259187bd22197975, 0x16afc0711cea70711cdfe26016a532600f439e6006d6fe6024fd1ce223171cd7219290e325b710a720ce5a05238a30b226d552052619e0d125a9382f26a8e02f23e4202f271accd226df293c257893ae271da000269f77ae238ec7ae260dee7b2713e7ae2312b39026ea75622612ef9025069f9026b4fe6d264e1bbd266265c922118b4527083e8f25933dfc2215ad60, 0xef9650b1c644d0b068cc50b163211bd162d690b1c68f5bd2508760226cdda9b26ba9ce72710a82c2614c60223148a02269c382c257ba82c272201612396ec2c26e0b816260ab0d223f541e3258cc9ed250d0273219c2279230b2a7d20c8c67f270fb400231e179026db46f2261e53902512039026bc966d2723f400265f05d022062745270bf9ef25a26dff220cd164] 1680 = true := by decide +kernel
theorem g4_168 : ∀ k, 1680 ≤ k → k < 1690 → Good (decG 4 (rpA kT4 (16 * 4) k)) := fun k h1 h2 => chkC_ok good5 k4_168 k h1 h2
theorem k4_169 : chkC 4 kT4 5 kT5 7921 [0x0, 0xfb372eb1d9552eb0746d2eb1791eadd179252eb1d94eadd20ca98e524065ee9230cfce725115cd9258470b7219df4df26e334102517a5fd2623f5fd2323b9fd26c0f0d32714155a2405b4db2583eded2510ce73219d6679230c6e7d20ca0a7f271380002323279026e2df9a262363902517139026c0626d27253800266b41c922076b4527082def25b3b3bd2207c170, 0x16ec82691d1df5061dd2e39816e5cd060f5a750606edd506230930e2250b08d720c6cce323ffe4a7219a28dd257540b227169d5c26bfacd1231fedff262029ff2513d9ff26f26f5526f4ab44257da3ae2722b000269cefae239b6fae260caa7b27115fae23153b9026d778d2261577902509279026b7866d27267c00266121c9220f03452709828f259e2fbd2209056e, 0x0, 0x171f2e0f1d43ebfe1d445a0f171ebffe0f7a17fe070d77fe26096ce226fdf5e523a7a9e5271e8e01258611e526a1483726b958d42715b8372503660126f3c093230f7a01260fb60126fd87d42585a3d4271dfb9026a0bbae23a73bd42608de7b27152bae230ee79026f3529a260f23902502d39026b8ca6d2727c0002663a9c922104745270d4e8f25a5c7bd22109d6c, 0x1e05b22d0f85991b17791cd71d4f6d1b0718f91b172a411b26f26f55258d4ca4260fb60123b028a426a28c31271accd226b814d224fe60d22714155a230a74d226d17ac0260ab0d2239b65e3259971ed2507f2732195bf9023247a7d20c9fb9026f8794c25b2cbae271db1ff26a5c1eb23fa5bae26222e7b2237877f241de58e20418c8e2223c50e20ec5b0e2449b70b, 0x1e2e31fd0fc53f4d17a92f4d1dabd0eb07589f4d17b6bceb2513d9ff219cb0d3230f7a0120cd15fb2589943123e4202f2711ec32231ae8d326c0f0d3250ed4d3261b24d326e0b81623a7289925ab29ed250426732191f390231e267d20c62f9026ea8dc425ba63ae272039ff26a705eb2400b1a62620ea7b2233bb7f24257d8f2044103e222b5d0f20f3f30f244afb0b, 0x1df311150f5d7dc716f06dc71d20fdc706f0ddc716f00a0b262029ff23f5c4a126f3c09325af78a1271f795f26a8e02f2509b9fc2193d4d02323b9fd20c810d0259dd42d2396ec2c239655e3259d3ded25093673219337902323367d20c7739026f369dc25aeffae271ef5ff26a849eb23f54bae261fa67b2234ff7f242a2e772049eb4522357d0b20f9db07244c3f0b, 0x1c6fc9450efd49451638e5451c6f6a3b0690a9451638863b231fedff20c954d525036601219518d523ab2c3125a9382f26d7dd4e25becee32623f5fd240a2ae326a5142d2722016123aa95e325a8a1ed2502e27321947b90231f6a7d20c8b79026d7925425be31a627217dff26a47deb24098da62623727b2232777f2428ea772048a7452232f50d20f89707244d830b, 0xfb9d4411e332c33074d344117d6427d1798b4411d9bb44123ffe4a7261ee5f9271e8e0126aa242926e4a71d25b710a7250731f221914cd6232131f320c588d625a56c23237b2e90240757a9257b11ed25172273219acf9023154a7d20d2e67f271521d92319079026ee435226194390250cf39026bf0f90222d677f2427a67720410f452236c0fd20f60f072448da62] 1690 = true := by decide +kernel
theorem g4_169 : ∀ k, 1690 ≤ k → k < 1700 → Good (decG 4 (rpA kT4 (16 * 4) k)) := fun k h1 h2 => chkC_ok good5 k4_169 k h1 h2
theorem k4_170 : chkC 4 kT4 5 kT5 7921 [0x1671cbbf1cfe50ee1ca9f3bf16c25cee0f2333bf06b693bf2723455b26a3d02724065ee9262539f725bd8ae926cdda9b238f542425a1a02120cbdcdb232275f12197a0db2505edf426e2f38c2580938c271b29ff269ba1eb23a0e78c2615867b271619f8230b1b9026d4f08a260b579024ff079026b8bb902225cf7f24200e7720439b97223948f820ee770724479660, 0x0, 0x0, 0xfa151ed1e18f1530734b1ed1752a1ed175316491d7401ed250b08d726bd24d726fdf5e5261758d72716fc3123171cd7231345f220d0e1f025151df32198e4d723db4423256dd69023daade3256d834f25149a73219847902312c27d20d05e7f271665d923167f9026fd748a2616bb90250a6b9026bc8790222eab7f2426627720476345222f28fc20f7530724551b0b, 0x170eb9c71dbd6b9e1d35f2a81706a6a80f6ea6a8070206a826f51563261dacd925115cd926c378d9231d70d92710a82c2579202423d3ac21219f38d9251661f120cf9df5231201f426cc2c1c2571641c2718a1ff269e29eb2382881c2612fe7b270fc5f82308939026fffa822608cf9024fc7f9026b633902227137f241eca772044df972231b0fa20efbb072452930b, 0x0, 0x173c4a3f1d7bfd491d660ad8173bced80f935ad80726bad8260d38e72701c215230cfce72712d16f2500e8e726ba9ce726a00424271cf168259118b126fa14db23b2b0b126123df426f9bba425909fae271c6dff269f6deb23b237ae2611ba7b27124df8230c5f9027013e52260c9b9025004b9026b9ff9022299b7f2421527720476797222a190020f2430724514f0b] 1700 = true := by decide +kernel
theorem g4_170 : ∀ k, 1700 ≤ k → k < 1707 → Good (decG 4 (rpA kT4 (16 * 4) k)) := fun k h1 h2 => chkC_ok good5 k4_170 k h1 h2
theorem good4 : GoodT 4 kT4 1707 := fun k hk => by
  by_cases h1 : k < 850
  · by_cases h2 : k < 420
    · by_cases h3 : k < 210
      · by_cases h4 : k < 100
        · by_cases h5 : k < 50
          · by_cases h6 : k < 20
            · by_cases h7 : k < 10
              · exact g4_0 k (by omega) (by omega)
              · exact g4_1 k (by omega) (by omega)
            · by_cases h7 : k < 30
              · exact g4_2 k (by omega) (by omega)
              · by_cases h8 : k < 40
                · exact g4_3 k (by omega) (by omega)
                · exact g4_4 k (by omega) (by omega)
          · by_cases h6 : k < 70
            · by_cases h7 : k < 60
              · exact g4_5 k (by omega) (by omega)
              · exact g4_6 k (by omega) (by omega)
            · by_cases h7 : k < 80
              · exact g4_7 k (by omega) (by omega)
              · by_cases h8 : k < 90
                · exact g4_8 k (by omega) (by omega)
                · exact g4_9 k (by omega) (by omega)
        · by_cases h5 : k < 150
          · by_cases h6 : k < 120
            · by_cases h7 : k < 110
              · exact g4_10 k (by omega) (by omega)
              · exact g4_11 k (by omega) (by omega)
            · by_cases h7 : k < 130
              · exact g4_12 k (by omega) (by omega)
              · by_cases h8 : k < 140
                · exact g4_13 k (by omega) (by omega)
                · exact g4_14 k (by omega) (by omega)
          · by_cases h6 : k < 180
            · by_cases h7 : k < 160
              · exact g4_15 k (by omega) (by omega)
              · by_cases h8 : k < 170
                · exact g4_16 k (by omega) (by omega)
                · exact g4_17 k (by omega) (by omega)
            · by_cases h7 : k < 190
              · exact g4_18 k (by omega) (by omega)
              · by_cases h8 : k < 200
                · exact g4_19 k (by omega) (by omega)
                · exact g4_20 k (by omega) (by omega)
      · by_cases h4 : k < 310
        · by_cases h5 : k < 260
          · by_cases h6 : k < 230
            · by_cases h7 : k < 220
              · exact g4_21 k (by omega) (by omega)
              · exact g4_22 k (by omega) (by omega)
            · by_cases h7 : k < 240
              · exact g4_23 k (by omega) (by omega)
              · by_cases h8 : k < 250
                · exact g4_24 k (by omega) (by omega)
                · exact g4_25 k (by omega) (by omega)
          · by_cases h6 : k < 280
            · by_cases h7 : k < 270
              · exact g4_26 k (by omega) (by omega)
              · exact g4_27 k (by omega) (by omega)
            · by_cases h7 : k < 290
              · exact g4_28 k (by omega) (by omega)
              · by_cases h8 : k < 300
                · exact g4_29 k (by omega) (by omega)
                · exact g4_30 k (by omega) (by omega)
        · by_cases h5 : k < 360
          · by_cases h6 : k < 330
            · by_cases h7 : k < 320
              · exact g4_31 k (by omega) (by omega)
              · exact g4_32 k (by omega) (by omega)
            · by_cases h7 : k < 340
              · exact g4_33 k (by omega) (by omega)
              · by_cases h8 : k < 350
                · exact g4_34 k (by omega) (by omega)
                · exact g4_35 k (by omega) (by omega)
          · by_cases h6 : k < 390
            · by_cases h7 : k < 370
              · exact g4_36 k (by omega) (by omega)
              · by_cases h8 : k < 380
                · exact g4_37 k (by omega) (by omega)
                · exact g4_38 k (by omega) (by omega)
            · by_cases h7 : k < 400
              · exact g4_39 k (by omega) (by omega)
              · by_cases h8 : k < 410
                · exact g4_40 k (by omega) (by omega)
                · exact g4_41 k (by omega) (by omega)
    · by_cases h3 : k < 630
      · by_cases h4 : k < 520
        · by_cases h5 : k < 470
          · by_cases h6 : k < 440
            · by_cases h7 : k < 430
              · exact g4_42 k (by omega) (by omega)
              · exact g4_43 k (by omega) (by omega)
            · by_cases h7 : k < 450
              · exact g4_44 k (by omega) (by omega)
              · by_cases h8 : k < 460
                · exact g4_45 k (by omega) (by omega)
                · exact g4_46 k (by omega) (by omega)
          · by_cases h6 : k < 490
            · by_cases h7 : k < 480
              · exact g4_47 k (by omega) (by omega)
              · exact g4_48 k (by omega) (by omega)
            · by_cases h7 : k < 500
              · exact g4_49 k (by omega) (by omega)
              · by_cases h8 : k < 510
                · exact g4_50 k (by omega) (by omega)
                · exact g4_51 k (by omega) (by omega)
        · by_cases h5 : k < 570
          · by_cases h6 : k < 540
            · by_cases h7 : k < 530
              · exact g4_52 k (by omega) (by omega)
              · exact g4_53 k (by omega) (by omega)
            · by_cases h7 : k < 550
              · exact g4_54 k (by omega) (by omega)
              · by_cases h8 : k < 560
                · exact g4_55 k (by omega) (by omega)
                · exact g4_56 k (by omega) (by omega)
          · by_cases h6 : k < 600
            · by_cases h7 : k < 580
              · exact g4_57 k (by omega) (by omega)
              · by_cases h8 : k < 590
                · exact g4_58 k (by omega) (by omega)
                · exact g4_59 k (by omega) (by omega)
            · by_cases h7 : k < 610
              · exact g4_60 k (by omega) (by omega)
              · by_cases h8 : k < 620
                · exact g4_61 k (by omega) (by omega)
                · exact g4_62 k (by omega) (by omega)
      · by_cases h4 : k < 740
        · by_cases h5 : k < 680
          · by_cases h6 : k < 650
            · by_cases h7 : k < 640
              · exact g4_63 k (by omega) (by omega)
              · exact g4_64 k (by omega) (by omega)
            · by_cases h7 : k < 660
              · exact g4_65 k (by omega) (by omega)
              · by_cases h8 : k < 670
                · exact g4_66 k (by omega) (by omega)
                · exact g4_67 k (by omega) (by omega)
          · by_cases h6 : k < 710
            · by_cases h7 : k < 690
              · exact g4_68 k (by omega) (by omega)
              · by_cases h8 : k < 700
                · exact g4_69 k (by omega) (by omega)
                · exact g4_70 k (by omega) (by omega)
            · by_cases h7 : k < 720
              · exact g4_71 k (by omega) (by omega)
              · by_cases h8 : k < 730
                · exact g4_72 k (by omega) (by omega)
                · exact g4_73 k (by omega) (by omega)
        · by_cases h5 : k < 790
          · by_cases h6 : k < 760
            · by_cases h7 : k < 750
              · exact g4_74 k (by omega) (by omega)
              · exact g4_75 k (by omega) (by omega)
            · by_cases h7 : k < 770
              · exact g4_76 k (by omega) (by omega)
              · by_cases h8 : k < 780
                · exact g4_77 k (by omega) (by omega)
                · exact g4_78 k (by omega) (by omega)
          · by_cases h6 : k < 820
            · by_cases h7 : k < 800
              · exact g4_79 k (by omega) (by omega)
              · by_cases h8 : k < 810
                · exact g4_80 k (by omega) (by omega)
                · exact g4_81 k (by omega) (by omega)
            · by_cases h7 : k < 830
              · exact g4_82 k (by omega) (by omega)
              · by_cases h8 : k < 840
                · exact g4_83 k (by omega) (by omega)
                · exact g4_84 k (by omega) (by omega)
  · by_cases h2 : k < 1280
    · by_cases h3 : k < 1060
      · by_cases h4 : k < 950
        · by_cases h5 : k < 900
          · by_cases h6 : k < 870
            · by_cases h7 : k < 860
              · exact g4_85 k (by omega) (by omega)
              · exact g4_86 k (by omega) (by omega)
            · by_cases h7 : k < 880
              · exact g4_87 k (by omega) (by omega)
              · by_cases h8 : k < 890
                · exact g4_88 k (by omega) (by omega)
                · exact g4_89 k (by omega) (by omega)
          · by_cases h6 : k < 920
            · by_cases h7 : k < 910
              · exact g4_90 k (by omega) (by omega)
              · exact g4_91 k (by omega) (by omega)
            · by_cases h7 : k < 930
              · exact g4_92 k (by omega) (by omega)
              · by_cases h8 : k < 940
                · exact g4_93 k (by omega) (by omega)
                · exact g4_94 k (by omega) (by omega)
        · by_cases h5 : k < 1000
          · by_cases h6 : k < 970
            · by_cases h7 : k < 960
              · exact g4_95 k (by omega) (by omega)
              · exact g4_96 k (by omega) (by omega)
            · by_cases h7 : k < 980
              · exact g4_97 k (by omega) (by omega)
              · by_cases h8 : k < 990
                · exact g4_98 k (by omega) (by omega)
                · exact g4_99 k (by omega) (by omega)
          · by_cases h6 : k < 1030
            · by_cases h7 : k < 1010
              · exact g4_100 k (by omega) (by omega)
              · by_cases h8 : k < 1020
                · exact g4_101 k (by omega) (by omega)
                · exact g4_102 k (by omega) (by omega)
            · by_cases h7 : k < 1040
              · exact g4_103 k (by omega) (by omega)
              · by_cases h8 : k < 1050
                · exact g4_104 k (by omega) (by omega)
                · exact g4_105 k (by omega) (by omega)
      · by_cases h4 : k < 1170
        · by_cases h5 : k < 1110
          · by_cases h6 : k < 1080
            · by_cases h7 : k < 1070
              · exact g4_106 k (by omega) (by omega)
              · exact g4_107 k (by omega) (by omega)
            · by_cases h7 : k < 1090
              · exact g4_108 k (by omega) (by omega)
              · by_cases h8 : k < 1100
                · exact g4_109 k (by omega) (by omega)
                · exact g4_110 k (by omega) (by omega)
          · by_cases h6 : k < 1140
            · by_cases h7 : k < 1120
              · exact g4_111 k (by omega) (by omega)
              · by_cases h8 : k < 1130
                · exact g4_112 k (by omega) (by omega)
                · exact g4_113 k (by omega) (by omega)
            · by_cases h7 : k < 1150
              · exact g4_114 k (by omega) (by omega)
              · by_cases h8 : k < 1160
                · exact g4_115 k (by omega) (by omega)
                · exact g4_116 k (by omega) (by omega)
        · by_cases h5 : k < 1220
          · by_cases h6 : k < 1190
            · by_cases h7 : k < 1180
              · exact g4_117 k (by omega) (by omega)
              · exact g4_118 k (by omega) (by omega)
            · by_cases h7 : k < 1200
              · exact g4_119 k (by omega) (by omega)
              · by_cases h8 : k < 1210
                · exact g4_120 k (by omega) (by omega)
                · exact g4_121 k (by omega) (by omega)
          · by_cases h6 : k < 1250
            · by_cases h7 : k < 1230
              · exact g4_122 k (by omega) (by omega)
              · by_cases h8 : k < 1240
                · exact g4_123 k (by omega) (by omega)
                · exact g4_124 k (by omega) (by omega)
            · by_cases h7 : k < 1260
              · exact g4_125 k (by omega) (by omega)
              · by_cases h8 : k < 1270
                · exact g4_126 k (by omega) (by omega)
                · exact g4_127 k (by omega) (by omega)
    · by_cases h3 : k < 1490
      · by_cases h4 : k < 1380
        · by_cases h5 : k < 1330
          · by_cases h6 : k < 1300
            · by_cases h7 : k < 1290
              · exact g4_128 k (by omega) (by omega)
              · exact g4_129 k (by omega) (by omega)
            · by_cases h7 : k < 1310
              · exact g4_130 k (by omega) (by omega)
              · by_cases h8 : k < 1320
                · exact g4_131 k (by omega) (by omega)
                · exact g4_132 k (by omega) (by omega)
          · by_cases h6 : k < 1350
            · by_cases h7 : k < 1340
              · exact g4_133 k (by omega) (by omega)
              · exact g4_134 k (by omega) (by omega)
            · by_cases h7 : k < 1360
              · exact g4_135 k (by omega) (by omega)
              · by_cases h8 : k < 1370
                · exact g4_136 k (by omega) (by omega)
                · exact g4_137 k (by omega) (by omega)
        · by_cases h5 : k < 1430
          · by_cases h6 : k < 1400
            · by_cases h7 : k < 1390
              · exact g4_138 k (by omega) (by omega)
              · exact g4_139 k (by omega) (by omega)
            · by_cases h7 : k < 1410
              · exact g4_140 k (by omega) (by omega)
              · by_cases h8 : k < 1420
                · exact g4_141 k (by omega) (by omega)
                · exact g4_142 k (by omega) (by omega)
          · by_cases h6 : k < 1460
            · by_cases h7 : k < 1440
              · exact g4_143 k (by omega) (by omega)
              · by_cases h8 : k < 1450
                · exact g4_144 k (by omega) (by omega)
                · exact g4_145 k (by omega) (by omega)
            · by_cases h7 : k < 1470
              · exact g4_146 k (by omega) (by omega)
              · by_cases h8 : k < 1480
                · exact g4_147 k (by omega) (by omega)
                · exact g4_148 k (by omega) (by omega)
      · by_cases h4 : k < 1600
        · by_cases h5 : k < 1540
          · by_cases h6 : k < 1510
            · by_cases h7 : k < 1500
              · exact g4_149 k (by omega) (by omega)
              · exact g4_150 k (by omega) (by omega)
            · by_cases h7 : k < 1520
              · exact g4_151 k (by omega) (by omega)
              · by_cases h8 : k < 1530
                · exact g4_152 k (by omega) (by omega)
                · exact g4_153 k (by omega) (by omega)
          · by_cases h6 : k < 1570
            · by_cases h7 : k < 1550
              · exact g4_154 k (by omega) (by omega)
              · by_cases h8 : k < 1560
                · exact g4_155 k (by omega) (by omega)
                · exact g4_156 k (by omega) (by omega)
            · by_cases h7 : k < 1580
              · exact g4_157 k (by omega) (by omega)
              · by_cases h8 : k < 1590
                · exact g4_158 k (by omega) (by omega)
                · exact g4_159 k (by omega) (by omega)
        · by_cases h5 : k < 1650
          · by_cases h6 : k < 1620
            · by_cases h7 : k < 1610
              · exact g4_160 k (by omega) (by omega)
              · exact g4_161 k (by omega) (by omega)
            · by_cases h7 : k < 1630
              · exact g4_162 k (by omega) (by omega)
              · by_cases h8 : k < 1640
                · exact g4_163 k (by omega) (by omega)
                · exact g4_164 k (by omega) (by omega)
          · by_cases h6 : k < 1680
            · by_cases h7 : k < 1660
              · exact g4_165 k (by omega) (by omega)
              · by_cases h8 : k < 1670
                · exact g4_166 k (by omega) (by omega)
                · exact g4_167 k (by omega) (by omega)
            · by_cases h7 : k < 1690
              · exact g4_168 k (by omega) (by omega)
              · by_cases h8 : k < 1700
                · exact g4_169 k (by omega) (by omega)
                · exact g4_170 k (by omega) (by omega)
